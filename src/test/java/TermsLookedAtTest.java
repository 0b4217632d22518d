/** The boundaries of the term LOOKED AT: what just passes, and one step beside it. */
public final class TermsLookedAtTest {
    private static final int[] PLACES = {Asm.GO_ON, Asm.GO_TO, Asm.GO_IF_FALSE, Asm.GO_IF_TRUE, Asm.NEXT, Asm.BLOCK};

    public static void main(String[] args) throws ReflectiveOperationException {
        Cases.of(TermsLookedAtTest.class);
    }

    private static void good(Check check, String what, Asm code) {
        check.due(what, new Host().read(code), "fine");
    }

    private static void bad(Check check, String what, Asm code) {
        check.due(what, new Host().read(code), "IllegalStateException 0");
    }

    private static void dueIf(boolean good, Check check, String what, Asm code) {
        check.due(what, new Host().read(code), good ? "fine" : "IllegalStateException 0");
    }

    /** A CODE that begins with so many on its stack. */
    private static Asm loads(int stack, int count) {
        return more(new Asm(0, 2, stack).constant(Asm.none()).name("n"), count);
    }

    private static Asm more(Asm code, int count) {
        for (int i = 0; i < count; i++) {
            code.op(Asm.CONSTANT, 0);
        }
        return code;
    }

    private static Asm endless(Asm code) {
        return code.op(Asm.GO_TO, code.place());
    }

    // ---- which instructions there are ----

    static void lookedAt_oneOfThese(Check check) {
        boolean[] known = new boolean[256];
        for (int what : new int[] {1, 2, 3, 4, 11, 12, 20, 22, 23, 24, 25, 26, 68, 83, 87, 90, 92, 93, 100, 101, 102,
            107, 110, 113, 114, 115, 122, 124, 125, 130, 131, 132, 144}) {
            known[what] = true;
        }
        for (int what = 0; what < 256; what++) {
            if (!known[what]) {
                bad(check, "instruction " + what, endless(loads(10, 5).op(what)));
                good(check, "instruction " + what + " that none comes to", loads(10, 1).op(Asm.RETURN).op(what));
                bad(check, "instruction " + what + " behind EXTENDED",
                        endless(loads(10, 5).op(Asm.EXTENDED).op(what)));
            }
        }
    }

    static void lookedAt_thereWholly(Check check) {
        good(check, "RETURN is the last", loads(1, 1).op(Asm.RETURN));
        bad(check, "CONSTANT is the last", loads(1, 1));
        bad(check, "POP is the last", loads(1, 1).op(Asm.POP));
        bad(check, "UNBLOCK is the last", loads(1, 0).op(Asm.BLOCK, 0).op(Asm.UNBLOCK));
        bad(check, "GO IF TRUE is the last", loads(1, 1).op(Asm.GO_IF_TRUE, 0));
        bad(check, "EXTENDED is the last", loads(1, 0).op(Asm.EXTENDED));
        bad(check, "EXTENDED is the last of 160 bytes", filled(158).op(Asm.EXTENDED));
        bad(check, "NOT is the last of 160 bytes", filled(158).op(Asm.NOT));
        good(check, "RETURN is the last of 160 bytes", filled(158).op(Asm.RETURN));
        good(check, "EXTENDED and RETURN are the last of 160 bytes", filled(156).op(Asm.EXTENDED).op(Asm.RETURN));
    }

    private static Asm filled(int length) {
        Asm code = loads(1, 1);
        while (code.place() < length) {
            code.op(Asm.NOT);
        }
        return code;
    }

    static void lookedAt_notComeTo(Check check) {
        good(check, "behind RETURN", loads(1, 1).op(Asm.RETURN).op(0).op(Asm.ROT).op(Asm.CONSTANT, 99));
        good(check, "behind RAISE", loads(1, 1).op(Asm.RAISE, 1).op(0));
        good(check, "behind GO TO", loads(1, 0).op(Asm.GO_TO, 0).op(0));
        good(check, "behind GO ON", loads(1, 0).op(Asm.GO_ON, 2).op(0).op(Asm.GO_TO, 0));
        bad(check, "behind GO IF TRUE", loads(1, 1).op(Asm.GO_IF_TRUE, 6).op(0).op(Asm.GO_TO, 6));
        bad(check, "behind GO IF FALSE", loads(1, 1).op(Asm.GO_IF_FALSE, 6).op(0).op(Asm.GO_TO, 6));
        good(check, "an EXTENDED at the end", loads(1, 1).op(Asm.RETURN).op(Asm.EXTENDED));
    }

    // ---- its a ----

    static void lookedAt_constantIsThere(Check check) {
        for (int count : new int[] {0, 1, 11, 12}) {
            for (int a = Math.max(count - 1, 0); a <= count; a++) {
                Asm code = new Asm(0, 0, 1);
                for (int i = 0; i < count; i++) {
                    code.constant(Asm.none());
                }
                dueIf(a < count, check, "CONSTANT " + a + " of " + count, code.op(Asm.CONSTANT, a).op(Asm.RETURN));
            }
        }
    }

    static void lookedAt_nameIsThere(Check check) {
        for (int count : new int[] {0, 1, 11, 12}) {
            for (int a = Math.max(count - 1, 0); a <= count; a++) {
                dueIf(a < count, check, "GLOBAL " + a + " of " + count,
                        named(count).op(Asm.GLOBAL, a).op(Asm.RETURN));
                dueIf(a < count, check, "STORE " + a + " of " + count,
                        named(count).load(1).op(Asm.STORE, a).op(Asm.GO_TO, 0));
            }
        }
    }

    private static Asm named(int count) {
        Asm code = new Asm(0, 0, 1);
        for (int i = 0; i < count; i++) {
            code.name("n");
        }
        return code;
    }

    static void lookedAt_localIsThere(Check check) {
        for (int count : new int[] {0, 1, 7, 8}) {
            for (int a = Math.max(count - 1, 0); a <= count; a++) {
                dueIf(a < count, check, "LOCAL " + a + " of " + count,
                        new Asm(0, count, 1).op(Asm.LOCAL, a).op(Asm.RETURN));
                dueIf(a < count, check, "SET " + a + " of " + count,
                        new Asm(0, count, 1).load(1).op(Asm.SET, a).op(Asm.GO_TO, 0));
            }
        }
    }

    /** The instruction stands at place 2 and goes to that place; at the last one is GO TO itself. */
    private static Asm toPlace(int what, int place, int length) {
        boolean counted = what == Asm.GO_ON || what == Asm.NEXT || what == Asm.BLOCK;
        Asm code = loads(10, 1);
        int a = counted ? place - 4 : place;
        code.op(what, a & 255);
        code.op(Asm.GO_TO, code.place());
        while (code.place() < length - 2) {
            code.op(0);
        }
        return code.op(Asm.GO_TO, length - 2);
    }

    static void lookedAt_placeIsInTheCode(Check check) {
        for (int what : PLACES) {
            good(check, what + " to the last place", toPlace(what, 18, 20));
            bad(check, what + " right behind the last place", toPlace(what, 20, 20));
            bad(check, what + " to one further", toPlace(what, 22, 20));
            bad(check, what + " far behind", toPlace(what, 200, 20));
            good(check, what + " to the last place of 160 bytes", toPlace(what, 158, 160));
            bad(check, what + " right behind 160 bytes", toPlace(what, 160, 160));
        }
    }

    static void lookedAt_placeIsEven(Check check) {
        for (int what : PLACES) {
            bad(check, what + " to the odd place before the last", toPlace(what, 17, 20));
            bad(check, what + " to the odd place behind the last", toPlace(what, 19, 20));
        }
    }

    static void lookedAt_placeIsNotRightBehindAnExtended(Check check) {
        for (int what : PLACES) {
            boolean counted = what == Asm.GO_ON || what == Asm.NEXT || what == Asm.BLOCK;
            for (int place : new int[] {6, 8, 10}) {
                Asm code = loads(10, 1).op(what, counted ? place - 4 : place);
                code.op(Asm.GO_TO, 4).op(Asm.EXTENDED).op(Asm.GO_TO, 6).op(Asm.GO_TO, 10);
                dueIf(place != 8, check, what + " to " + place + ", EXTENDED at 6", code);
            }
            good(check, what + " right behind a byte of 144 that is an a", loads(10, 1)
                    .op(what, counted ? 4 : 8).op(Asm.GO_TO, 4).op(Asm.POP, 144).op(Asm.GO_TO, 8));
        }
    }

    static void lookedAt_goToTheFirstPlace(Check check) {
        good(check, "GO TO 0", loads(1, 0).op(Asm.GO_TO, 0));
        good(check, "GO IF TRUE 0", loads(1, 1).op(Asm.GO_IF_TRUE, 0).op(Asm.GO_TO, 0));
        bad(check, "GO TO 1", loads(1, 0).op(Asm.GO_TO, 1));
    }

    static void lookedAt_compare(Check check) {
        for (int a = 0; a < 256; a++) {
            dueIf(a <= 5 || a == 10, check, "COMPARE " + a, loads(2, 2).op(Asm.COMPARE, a).op(Asm.RETURN));
        }
    }

    static void lookedAt_tupleSpreadCall(Check check) {
        for (int a : new int[] {0, 1, 9, 10, 11, 12, 255}) {
            int below = a == 0 ? 0 : 10;
            dueIf(a <= 10, check, "TUPLE " + a, endless(loads(10, below).op(Asm.TUPLE, a)));
            dueIf(a <= 10, check, "SPREAD " + a, endless(loads(10, 1).op(Asm.SPREAD, a)));
        }
        for (int a : new int[] {0, 1, 3, 4, 5, 9, 255}) {
            dueIf(a <= 4, check, "CALL " + a, endless(loads(10, 10).op(Asm.CALL, a)));
        }
    }

    static void lookedAt_raiseAndFunction(Check check) {
        for (int a = 0; a <= 3; a++) {
            dueIf(a == 1, check, "RAISE " + a, loads(1, 1).op(Asm.RAISE, a));
            dueIf(a == 0, check, "FUNCTION " + a, loads(1, 1).op(Asm.FUNCTION, a).op(Asm.RETURN));
        }
        bad(check, "RAISE 255", loads(1, 1).op(Asm.RAISE, 255));
        bad(check, "FUNCTION 255", loads(1, 1).op(Asm.FUNCTION, 255).op(Asm.RETURN));
        bad(check, "RAISE 257", loads(1, 1).op(Asm.EXTENDED, 1).op(Asm.RAISE, 1));
        bad(check, "FUNCTION 256", loads(1, 1).op(Asm.EXTENDED, 1).op(Asm.FUNCTION).op(Asm.RETURN));
    }

    static void lookedAt_aMeansNothing(Check check) {
        int[] whats = {1, 2, 3, 4, 11, 12, 20, 22, 23, 24, 25, 26, 68};
        for (int what : whats) {
            good(check, what + " with 255", endless(loads(10, 4).op(what, 255)));
            good(check, what + " with 65535", endless(loads(10, 4).op(Asm.EXTENDED, 255).op(what, 255)));
        }
        good(check, "RETURN 255", loads(1, 1).op(Asm.RETURN, 255));
        good(check, "UNBLOCK 255", endless(loads(1, 0).op(Asm.BLOCK, 4).op(Asm.UNBLOCK, 255).op(Asm.CONSTANT, 0)));
    }

    static void lookedAt_functionsValueIsNotLookedAt(Check check) {
        good(check, "FUNCTION of NONE", loads(1, 1).op(Asm.FUNCTION).op(Asm.RETURN));
        good(check, "CALL of NONE", loads(1, 1).op(Asm.CALL, 0).op(Asm.RETURN));
    }

    // ---- what is on the stack ----

    /** what, a, how many it takes, how many come. */
    private static final int[][] TAKES = {{1, 0, 1, 0}, {2, 0, 2, 2}, {3, 0, 3, 3}, {4, 0, 1, 2}, {11, 0, 1, 1},
        {12, 0, 1, 1}, {20, 0, 2, 1}, {22, 0, 2, 1}, {23, 0, 2, 1}, {24, 0, 2, 1}, {25, 0, 2, 1}, {26, 0, 2, 1},
        {68, 0, 1, 1}, {90, 0, 1, 0}, {92, 0, 1, 0}, {92, 1, 1, 1}, {92, 5, 1, 5}, {100, 0, 0, 1}, {101, 0, 0, 1},
        {102, 0, 0, 1}, {102, 1, 1, 1}, {102, 5, 5, 1}, {107, 0, 2, 1}, {107, 2, 2, 1}, {107, 10, 2, 1},
        {110, 0, 0, 0}, {124, 1, 0, 1}, {125, 1, 1, 0}, {131, 0, 1, 1}, {131, 1, 2, 1}, {131, 4, 5, 1},
        {132, 0, 1, 1}};

    static void lookedAt_whatItTakesIsThere(Check check) {
        for (int[] each : TAKES) {
            String what = each[0] + " " + each[1];
            good(check, what + " with just enough", endless(loads(10, each[2]).op(each[0], each[1])));
            good(check, what + " with one more", endless(loads(10, each[2] + 1).op(each[0], each[1])));
            if (each[2] > 0) {
                bad(check, what + " with one less", endless(loads(10, each[2] - 1).op(each[0], each[1])));
            }
        }
        for (int what : new int[] {Asm.GO_IF_FALSE, Asm.GO_IF_TRUE}) {
            good(check, what + " with one", loads(10, 1).op(what, 4).op(Asm.GO_TO, 4));
            bad(check, what + " with none", loads(10, 0).op(what, 2).op(Asm.GO_TO, 2));
        }
        good(check, "NEXT with one", loads(10, 1).op(Asm.NEXT, 2).op(Asm.GO_TO, 4).op(Asm.GO_TO, 6));
        bad(check, "NEXT with none", loads(10, 0).op(Asm.NEXT, 2).op(Asm.GO_TO, 2).op(Asm.GO_TO, 4));
        bad(check, "RETURN with none", loads(10, 0).op(Asm.RETURN));
        bad(check, "RAISE with none", loads(10, 0).op(Asm.RAISE, 1));
    }

    /** The height behind it: from there just as many as it has can be taken. */
    static void lookedAt_whatComesIsThere(Check check) {
        for (int[] each : TAKES) {
            String what = each[0] + " " + each[1];
            good(check, "all behind " + what, taken(each, each[3]));
            bad(check, "one more than all behind " + what, taken(each, each[3] + 1));
        }
    }

    private static Asm taken(int[] each, int pops) {
        Asm code = loads(10, each[2]).op(each[0], each[1]);
        for (int i = 0; i < pops; i++) {
            code.op(Asm.POP);
        }
        return endless(code);
    }

    /** In a block that has one: what is above it is enough, what lies below does not help. */
    static void lookedAt_aboveWhatTheLatestBlockHas(Check check) {
        for (int[] each : TAKES) {
            String what = each[0] + " " + each[1];
            good(check, what + " with just enough above", inBlock(each[0], each[1], each[2]));
            if (each[2] > 0) {
                bad(check, what + " with one less above", inBlock(each[0], each[1], each[2] - 1));
            }
        }
        good(check, "RAISE with one above", loads(10, 3).op(Asm.BLOCK, 4).op(Asm.CONSTANT, 0).op(Asm.RAISE, 1)
                .op(Asm.RETURN));
        bad(check, "RAISE with none above", loads(10, 3).op(Asm.BLOCK, 2).op(Asm.RAISE, 1).op(Asm.RETURN));
        for (int what : new int[] {Asm.GO_IF_FALSE, Asm.GO_IF_TRUE}) {
            good(check, what + " with one above", loads(10, 1).op(Asm.BLOCK, 6).op(Asm.CONSTANT, 0).op(what, 8)
                    .op(Asm.GO_TO, 8).op(Asm.RETURN));
            bad(check, what + " with none above", loads(10, 1).op(Asm.BLOCK, 6).op(Asm.GO_ON, 0).op(what, 8)
                    .op(Asm.GO_TO, 8).op(Asm.RETURN));
        }
        good(check, "NEXT with one above", loads(10, 1).op(Asm.BLOCK, 8).op(Asm.CONSTANT, 0).op(Asm.NEXT, 2)
                .op(Asm.GO_TO, 8).op(Asm.GO_TO, 10).op(Asm.RETURN));
        bad(check, "NEXT with none above", loads(10, 1).op(Asm.BLOCK, 8).op(Asm.GO_ON, 0).op(Asm.NEXT, 2)
                .op(Asm.GO_TO, 8).op(Asm.GO_TO, 10).op(Asm.RETURN));
    }

    private static Asm inBlock(int what, int a, int above) {
        int behind = 2 * above + 4;
        return endless(more(loads(10, 3).op(Asm.BLOCK, behind), above).op(what, a)).op(Asm.RETURN);
    }

    static void lookedAt_behindUnblockTheBlockBeforeCounts(Check check) {
        good(check, "POP behind UNBLOCK", endless(loads(10, 1).op(Asm.BLOCK, 6).op(Asm.UNBLOCK).op(Asm.POP))
                .op(Asm.RETURN));
        good(check, "above the outer block", outerAndInner(1));
        bad(check, "below the outer block", outerAndInner(2));
    }

    /** The outer block has 1, the inner one 2; behind UNBLOCK of the inner one so many are popped. */
    private static Asm outerAndInner(int pops) {
        Asm code = loads(10, 1).op(Asm.BLOCK, 16).op(Asm.CONSTANT, 0).op(Asm.BLOCK, 10).op(Asm.UNBLOCK);
        for (int i = 0; i < pops; i++) {
            code.op(Asm.POP);
        }
        endless(code);
        while (code.place() < 18) {
            code.op(0);
        }
        return code.op(Asm.RAISE, 1).op(Asm.RETURN);
    }

    static void lookedAt_neverMoreThanStack(Check check) {
        for (int stack = 1; stack <= 10; stack++) {
            good(check, stack + " on a stack of " + stack, endless(loads(stack, stack)));
            bad(check, (stack + 1) + " on a stack of " + stack, endless(loads(stack, stack + 1)));
        }
        for (int[] each : TAKES) {
            String what = each[0] + " " + each[1];
            int most = Math.max(1, Math.max(each[2], each[3]));
            good(check, what + " on a stack just high enough", endless(loads(most, each[2]).op(each[0], each[1])));
            if (each[3] > Math.max(each[2], 1)) {
                bad(check, what + " on one less high", endless(loads(most - 1, each[2]).op(each[0], each[1])));
            }
        }
        good(check, "NEXT on a stack of 2", loads(2, 1).op(Asm.NEXT, 2).op(Asm.GO_TO, 4).op(Asm.GO_TO, 6));
        bad(check, "NEXT on a stack of 1", loads(1, 1).op(Asm.NEXT, 2).op(Asm.GO_TO, 4).op(Asm.GO_TO, 6));
    }

    static void lookedAt_nextAtItsEndHasOneLess(Check check) {
        good(check, "one less", loads(3, 2).op(Asm.NEXT, 2).op(Asm.GO_TO, 6).op(Asm.RETURN));
        bad(check, "RETURN of none", loads(3, 1).op(Asm.NEXT, 2).op(Asm.GO_TO, 4).op(Asm.RETURN));
        bad(check, "two less", loads(3, 2).op(Asm.NEXT, 2).op(Asm.GO_TO, 6).op(Asm.SWAP).op(Asm.GO_TO, 8));
    }

    // ---- blocks ----

    /** All handlers raise again, each in a place of its own, the innermost's first. */
    private static Asm nestedBlocks(int count, int unblocks) {
        Asm code = loads(2, 0);
        int raises = 2 * count + 2 * unblocks + 2;
        for (int i = 0; i < count; i++) {
            code.op(Asm.BLOCK, raises + 2 * (count - 1 - i) - code.place() - 2);
        }
        for (int i = 0; i < unblocks; i++) {
            code.op(Asm.UNBLOCK);
        }
        endless(code);
        for (int i = 0; i < count; i++) {
            code.op(Asm.RAISE, 1);
        }
        return code;
    }

    static void lookedAt_atMost4Blocks(Check check) {
        for (int count = 1; count <= 6; count++) {
            dueIf(count <= 4, check, count + " blocks", nestedBlocks(count, 0));
            dueIf(count <= 4, check, count + " blocks and UNBLOCKs", nestedBlocks(count, count));
        }
    }

    static void lookedAt_unblockHasOne(Check check) {
        for (int count = 0; count <= 4; count++) {
            good(check, count + " blocks, as many UNBLOCKs", nestedBlocks(count, count));
            bad(check, count + " blocks, one UNBLOCK more", nestedBlocks(count, count + 1));
        }
    }

    static void lookedAt_returnHasNone(Check check) {
        good(check, "no block", loads(1, 1).op(Asm.RETURN));
        bad(check, "one block", loads(2, 0).op(Asm.BLOCK, 4).op(Asm.CONSTANT, 0).op(Asm.RETURN).op(Asm.RETURN));
        good(check, "one block that has gone", loads(2, 0).op(Asm.BLOCK, 6).op(Asm.CONSTANT, 0).op(Asm.UNBLOCK)
                .op(Asm.RETURN).op(Asm.RETURN));
        bad(check, "one of two blocks that has gone", loads(2, 0).op(Asm.BLOCK, 10).op(Asm.BLOCK, 6)
                .op(Asm.CONSTANT, 0).op(Asm.UNBLOCK).op(Asm.RETURN).op(Asm.RAISE, 1).op(Asm.RETURN));
        good(check, "a handler", loads(2, 0).op(Asm.BLOCK, 2).op(Asm.GO_TO, 2).op(Asm.RETURN));
        bad(check, "the inner one of two handlers", loads(2, 0).op(Asm.BLOCK, 6).op(Asm.BLOCK, 2)
                .op(Asm.GO_TO, 4).op(Asm.RETURN).op(Asm.RETURN));
    }

    static void lookedAt_handlerHasWhatItsBlockHasAndOneMore(Check check) {
        for (int below = 0; below <= 3; below++) {
            for (int pops = 0; pops <= below + 2; pops++) {
                Asm code = endless(more(loads(10, below).op(Asm.BLOCK, 6), 2));
                for (int i = 0; i < pops; i++) {
                    code.op(Asm.POP);
                }
                dueIf(pops <= below + 1, check, pops + " pops in the handler of a block that has " + below,
                        endless(code));
            }
        }
    }

    static void lookedAt_handlerOnAFullStack(Check check) {
        for (int stack : new int[] {1, 2, 10}) {
            good(check, "a block below a full stack of " + stack,
                    loads(stack, stack - 1).op(Asm.BLOCK, 2).op(Asm.GO_TO, 2 * stack).op(Asm.RETURN));
            bad(check, "a block on a full stack of " + stack,
                    loads(stack, stack).op(Asm.BLOCK, 2).op(Asm.GO_TO, 2 * stack + 2).op(Asm.RETURN));
        }
    }

    static void lookedAt_handlerHasTheBlocksBefore(Check check) {
        good(check, "one UNBLOCK in the inner handler", loads(2, 0).op(Asm.BLOCK, 8).op(Asm.BLOCK, 2)
                .op(Asm.GO_TO, 4).op(Asm.UNBLOCK).op(Asm.RETURN).op(Asm.RETURN));
        bad(check, "two UNBLOCKs in the inner handler", loads(2, 0).op(Asm.BLOCK, 10).op(Asm.BLOCK, 2)
                .op(Asm.GO_TO, 4).op(Asm.UNBLOCK).op(Asm.UNBLOCK).op(Asm.RETURN).op(Asm.RETURN));
        bad(check, "one UNBLOCK in the only handler", loads(2, 0).op(Asm.BLOCK, 2).op(Asm.GO_TO, 2)
                .op(Asm.UNBLOCK).op(Asm.RETURN));
    }

    static void lookedAt_handlerIsAWay(Check check) {
        bad(check, "one that is not as it must be", loads(2, 0).op(Asm.BLOCK, 2).op(Asm.GO_TO, 2).op(0));
        bad(check, "one that goes past the end", loads(2, 0).op(Asm.BLOCK, 2).op(Asm.GO_TO, 2).op(Asm.NOT));
    }

    // ---- several ways to a place ----

    static void lookedAt_severalWays_asManyOnTheStack(Check check) {
        bad(check, "a way with one less", secondWay(Asm.POP));
        good(check, "a way with as many", secondWay(Asm.NOT));
        bad(check, "a way with one more", secondWay(Asm.DUP));
    }

    /** Place 12 is come to with 2 on the stack, and with as many as are there behind the instruction. */
    private static Asm secondWay(int what) {
        return loads(10, 3).op(Asm.GO_IF_TRUE, 12).op(what).op(Asm.GO_TO, 12).op(Asm.GO_TO, 12);
    }

    static void lookedAt_severalWays_loops(Check check) {
        good(check, "a loop of the same height", loads(10, 1).op(Asm.DUP).op(Asm.POP).op(Asm.GO_TO, 2));
        bad(check, "a loop that grows", loads(10, 1).op(Asm.DUP).op(Asm.GO_TO, 2));
        bad(check, "a loop that shrinks", loads(10, 5).op(Asm.POP).op(Asm.GO_TO, 10));
        bad(check, "a loop that grows in blocks", loads(10, 0).op(Asm.BLOCK, 2).op(Asm.GO_TO, 0).op(Asm.RETURN));
        bad(check, "a loop that shrinks in blocks", loads(10, 0).op(Asm.BLOCK, 4).op(Asm.UNBLOCK)
                .op(Asm.GO_TO, 2).op(Asm.RETURN));
        good(check, "a loop with a block inside", loads(10, 0).op(Asm.BLOCK, 4).op(Asm.UNBLOCK)
                .op(Asm.GO_TO, 0).op(Asm.RETURN));
    }

    static void lookedAt_severalWays_theSameBlocks(Check check) {
        bad(check, "with a block and without", loads(3, 1).op(Asm.GO_IF_TRUE, 6).op(Asm.BLOCK, 2)
                .op(Asm.GO_TO, 6).op(Asm.RETURN));
        good(check, "the same handler and level", twoBlocks(6, 2));
        bad(check, "another handler", twoBlocks(8, 2));
        good(check, "the same level", twoLevels(true));
        bad(check, "another level", twoLevels(false));
    }

    /** Two ways, each with a BLOCK, meet at place 10; the handlers lie at 12 and 14. */
    private static Asm twoBlocks(int first, int second) {
        return loads(3, 1).op(Asm.GO_IF_TRUE, 8).op(Asm.BLOCK, first).op(Asm.GO_TO, 10)
                .op(Asm.BLOCK, second).op(Asm.GO_TO, 10).op(Asm.RETURN).op(Asm.RETURN);
    }

    /** Both ways come to place 16 with 2 on the stack and a block with its handler at 18. */
    private static Asm twoLevels(boolean same) {
        Asm code = loads(5, 2).op(Asm.GO_IF_TRUE, 12).op(Asm.BLOCK, 10).op(Asm.CONSTANT, 0).op(Asm.GO_TO, 16);
        if (same) {
            code.op(Asm.BLOCK, 4).op(Asm.CONSTANT, 0);
        } else {
            code.op(Asm.CONSTANT, 0).op(Asm.BLOCK, 2);
        }
        return code.op(Asm.GO_TO, 16).op(Asm.RETURN);
    }

    /** Two ways that go on side by side, each in a loop of its own, in blocks of their own. */
    static void lookedAt_severalWays_eachKeepsItsOwnBlocks(Check check) {
        good(check, "other handlers", sideBySide(loads(4, 1), 0));
        good(check, "other handlers and levels", sideBySide(loads(4, 2), 1));
        good(check, "other handlers, in a block around both", loads(4, 0).op(Asm.BLOCK, 32)
                .op(Asm.CONSTANT, 0).op(Asm.GO_IF_TRUE, 20).op(Asm.BLOCK, 22).op(Asm.CONSTANT, 0).op(Asm.NOT)
                .op(Asm.NOT).op(Asm.POP).op(Asm.GO_TO, 8).op(0).op(Asm.BLOCK, 10).op(Asm.CONSTANT, 0)
                .op(Asm.NOT).op(Asm.POP).op(Asm.GO_TO, 22).op(Asm.RAISE, 1).op(Asm.RAISE, 1).op(Asm.RETURN));
    }

    /** The one way's block has so many less than the other's. */
    private static Asm sideBySide(Asm code, int less) {
        int start = code.place();
        code.op(Asm.GO_IF_TRUE, start + 14).op(Asm.BLOCK, 22).op(Asm.CONSTANT, 0).op(Asm.NOT).op(Asm.NOT)
                .op(Asm.POP).op(Asm.GO_TO, start + 4);
        code.op(less == 0 ? Asm.GO_ON : Asm.POP).op(Asm.BLOCK, 10).op(Asm.CONSTANT, 0).op(Asm.NOT).op(Asm.POP)
                .op(Asm.GO_TO, start + 18);
        return code.op(Asm.RETURN).op(Asm.RAISE, 1);
    }

    static void lookedAt_severalWays_toAHandler(Check check) {
        good(check, "with as many and the same blocks", loads(3, 0).op(Asm.BLOCK, 4).op(Asm.UNBLOCK)
                .op(Asm.CONSTANT, 0).op(Asm.RETURN));
        bad(check, "with one less", loads(3, 0).op(Asm.BLOCK, 4).op(Asm.UNBLOCK).op(Asm.GO_ON, 0)
                .op(Asm.CONSTANT, 0).op(Asm.RETURN));
        bad(check, "with its own block still there", loads(3, 0).op(Asm.BLOCK, 4).op(Asm.GO_ON, 0)
                .op(Asm.CONSTANT, 0).op(Asm.RETURN));
    }

    static void lookedAt_emptyStackAndNoBlocksAtPlace0(Check check) {
        bad(check, "come to again with one", loads(3, 1).op(Asm.GO_TO, 0));
        good(check, "come to again with none", loads(3, 1).op(Asm.POP).op(Asm.GO_TO, 0));
        bad(check, "arguments are not on the stack", new Asm(4, 4, 4).op(Asm.RETURN));
    }

    // ---- each CODE, those in it first ----

    static void lookedAt_eachCodeHasItsOwn(Check check) {
        int[] inner = new Asm(0, 1, 1).op(Asm.LOCAL, 0).op(Asm.RETURN).bytes();
        good(check, "a local of the inner one", new Asm(0, 0, 1).op(Asm.GO_TO, 0).constant(inner));
        check.due("a local of the outer one", new Host().read(new Asm(0, 0, 1).op(Asm.LOCAL, 0).op(Asm.RETURN)
                .constant(inner)), "IllegalStateException 1000");
        int[] taking = new Asm(0, 0, 1).op(Asm.CONSTANT, 0).op(Asm.RETURN).bytes();
        bad(check, "a constant of the outer one", Samples.endless().constant(Asm.none()).constant(taking));
    }

    static void lookedAt_eachCodeEvenIfNoneCallsIt(Check check) {
        bad(check, "a constant that none takes", Samples.endless().constant(Samples.NOT_AS_IT_MUST_BE));
        bad(check, "in a tuple", Samples.endless().constant(Samples.nested(Samples.NOT_AS_IT_MUST_BE, 3)));
    }
}
