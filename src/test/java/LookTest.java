/** Promises 3 and 4, LOOKED AT: which CODEs are as they must be, and the number of the first that is not. */
public final class LookTest {
    private static final Check CHECK = new Check("LookTest");

    public static void main(String[] args) {
        everyInstruction();
        arguments();
        heights();
        places();
        extended();
        blocks();
        joins();
        whatIsNotComeTo();
        numbers();
        CHECK.end();
    }

    private static void good(String what, Asm code) {
        CHECK.due(what, new Host().read(code), "fine");
    }

    private static void bad(String what, Asm code) {
        CHECK.due(what, new Host().read(code), "IllegalStateException 0");
    }

    private static Asm loads(int stack, int count) {
        Asm code = new Asm(0, 2, stack).constant(Asm.none()).name("n");
        for (int i = 0; i < count; i++) {
            code.op(Asm.CONSTANT, 0);
        }
        return code;
    }

    /** One with just as many on the stack as it takes is good, one with one less is bad. */
    private static void everyInstruction() {
        int[][] takes = {{1, 0, 1, 0}, {2, 0, 2, 2}, {3, 0, 3, 3}, {4, 0, 1, 2}, {11, 0, 1, 1},
            {12, 0, 1, 1}, {20, 0, 2, 1}, {22, 0, 2, 1}, {23, 0, 2, 1}, {24, 0, 2, 1}, {25, 0, 2, 1},
            {26, 0, 2, 1}, {68, 0, 1, 1}, {90, 0, 1, 0}, {92, 0, 1, 0}, {92, 3, 1, 3},
            {100, 0, 0, 1}, {101, 0, 0, 1}, {102, 0, 0, 1}, {102, 4, 4, 1}, {107, 2, 2, 1},
            {110, 0, 0, 0}, {124, 1, 0, 1}, {125, 1, 1, 0}, {131, 0, 1, 1}, {131, 2, 3, 1},
            {132, 0, 1, 1}};
        for (int[] each : takes) {
            String what = "instruction " + each[0] + " " + each[1];
            int most = Math.max(Math.max(each[2], each[3]), 1);
            good(what, end(loads(most, each[2]).op(each[0], each[1]), each[3]));
            if (each[2] > 0) {
                bad(what + " with too few", end(loads(10, each[2] - 1).op(each[0], each[1]), 0));
            }
            if (each[3] > each[2] && each[3] > 1) {
                bad(what + " with too many", end(loads(most - 1, each[2]).op(each[0], each[1]), each[3]));
            }
        }
        bad("RETURN of none", loads(1, 0).op(Asm.RETURN));
        good("RAISE", loads(1, 1).op(Asm.RAISE, 1));
        bad("RAISE of none", loads(1, 0).op(Asm.RAISE, 1));
        boolean[] known = new boolean[256];
        for (int[] each : takes) {
            known[each[0]] = true;
        }
        for (int each : new int[] {83, 87, 93, 113, 114, 115, 122, 130, 144}) {
            known[each] = true;
        }
        for (int what = 0; what < 256; what++) {
            if (!known[what]) {
                bad("instruction " + what, end(loads(10, 4).op(what), 4));
            }
        }
    }

    /** Pops what is there and returns. */
    private static Asm end(Asm code, int height) {
        for (int i = 0; i < height; i++) {
            code.op(Asm.POP);
        }
        return code.op(Asm.CONSTANT, 0).op(Asm.RETURN);
    }

    private static void arguments() {
        bad("CONSTANT 1 of 1", end(loads(5, 0).op(Asm.CONSTANT, 1), 1));
        bad("GLOBAL 1 of 1", end(loads(5, 0).op(Asm.GLOBAL, 1), 1));
        bad("STORE 1 of 1", end(loads(5, 1).op(Asm.STORE, 1), 0));
        bad("LOCAL 2 of 2", end(loads(5, 0).op(Asm.LOCAL, 2), 1));
        bad("SET 2 of 2", end(loads(5, 1).op(Asm.SET, 2), 0));
        for (int a = 0; a < 256; a++) {
            Asm compare = end(loads(5, 2).op(Asm.COMPARE, a), 1);
            if (a <= 5 || a == 10) {
                good("COMPARE " + a, compare);
            } else {
                bad("COMPARE " + a, compare);
            }
        }
        good("TUPLE 10", end(loads(10, 10).op(Asm.TUPLE, 10), 1));
        bad("TUPLE 11", end(loads(10, 10).op(Asm.TUPLE, 11), 1));
        good("SPREAD 10", end(loads(10, 1).op(Asm.SPREAD, 10), 10));
        bad("SPREAD 11", end(loads(10, 1).op(Asm.SPREAD, 11), 10));
        good("CALL 4", end(loads(10, 5).op(Asm.CALL, 4), 1));
        bad("CALL 5", end(loads(10, 6).op(Asm.CALL, 5), 1));
        bad("RAISE 0", loads(10, 1).op(Asm.RAISE, 0));
        bad("RAISE 2", loads(10, 1).op(Asm.RAISE, 2));
        bad("FUNCTION 1", end(loads(10, 1).op(Asm.FUNCTION, 1), 1));
        good("a means nothing for POP", end(loads(10, 1).op(Asm.POP, 200), 0));
        good("nor for RETURN", loads(10, 1).op(Asm.RETURN, 255));
        good("nor for UNBLOCK", end(loads(3, 0).op(Asm.BLOCK, 4).op(Asm.UNBLOCK, 9)
                .op(Asm.CONSTANT, 0).op(Asm.POP), 0));
    }

    private static void heights() {
        good("just STACK", end(loads(3, 3), 3));
        bad("one more than STACK", end(loads(2, 3), 3));
        good("SPREAD into just STACK", end(loads(4, 2).op(Asm.SPREAD, 3), 4));
        bad("SPREAD into more than STACK", end(loads(3, 2).op(Asm.SPREAD, 3), 4));
        good("NEXT into just STACK", walking(loads(2, 1), 4));
        bad("NEXT into more than STACK", walking(loads(1, 1), 4));
        bad("NEXT of none", loads(3, 0).op(Asm.NEXT, 0).op(Asm.GO_TO, 2));
        good("NEXT, and the walker goes at its end", end(loads(3, 2).op(Asm.NEXT, 4).op(Asm.POP)
                .op(Asm.GO_TO, 4), 1));
        bad("NEXT, and the walker stays at its end", end(loads(3, 2).op(Asm.NEXT, 4).op(Asm.POP)
                .op(Asm.GO_TO, 4), 2));
    }

    /** A loop over what is on the stack; its end lies 4 bytes behind the instruction after NEXT. */
    private static Asm walking(Asm code, int a) {
        int start = code.place();
        return end(code.op(Asm.NEXT, a).op(Asm.POP).op(Asm.GO_TO, start), 0);
    }

    private static void places() {
        bad("past the end", loads(3, 1));
        bad("past the end by POP", loads(3, 1).op(Asm.POP));
        good("GO ON over one", end(loads(3, 0).op(Asm.GO_ON, 2).op(0), 0));
        bad("GO ON by 1", end(loads(3, 0).op(Asm.GO_ON, 1).op(Asm.GO_ON), 0));
        bad("GO ON past the end", end(loads(3, 0).op(Asm.GO_ON, 4), 0));
        bad("GO ON by 254", end(loads(3, 0).op(Asm.GO_ON, 254), 0));
        good("GO TO itself", loads(3, 0).op(Asm.GO_TO, 0));
        bad("GO TO 1", loads(3, 0).op(Asm.GO_TO, 1));
        bad("GO TO the end", loads(3, 0).op(Asm.GO_TO, 2));
        bad("GO TO 200", loads(3, 0).op(Asm.GO_TO, 200));
        good("GO IF FALSE", end(loads(3, 1).op(Asm.GO_IF_FALSE, 4), 0));
        bad("GO IF FALSE to 5", end(loads(3, 1).op(Asm.GO_IF_FALSE, 5), 0));
        bad("GO IF TRUE past the end", end(loads(3, 1).op(Asm.GO_IF_TRUE, 8), 0));
        bad("GO IF TRUE is the last", loads(3, 1).op(Asm.GO_IF_TRUE, 0));
        bad("GO IF TRUE of none", end(loads(3, 0).op(Asm.GO_IF_TRUE, 2), 0));
        good("NEXT by 4", walking(loads(3, 1), 4));
        bad("NEXT by 3", walking(loads(3, 1), 3));
        bad("NEXT past the end", walking(loads(3, 1), 8));
    }

    private static void extended() {
        good("EXTENDED 0", end(loads(3, 0).op(Asm.EXTENDED, 0).op(Asm.CONSTANT, 0), 1));
        bad("EXTENDED 1", end(loads(3, 0).op(Asm.EXTENDED, 1).op(Asm.CONSTANT, 0), 1));
        good("EXTENDED where a means nothing", end(loads(3, 1).op(Asm.EXTENDED, 9).op(Asm.POP), 0));
        bad("two of them", end(loads(3, 0).op(Asm.EXTENDED, 0).op(Asm.EXTENDED, 0)
                .op(Asm.CONSTANT, 0), 1));
        bad("EXTENDED at the end", loads(3, 0).op(Asm.EXTENDED, 0));
        bad("EXTENDED of no instruction", end(loads(3, 0).op(Asm.EXTENDED, 0).op(0), 0));
        bad("RAISE 257", loads(3, 1).op(Asm.EXTENDED, 1).op(Asm.RAISE, 1));
        bad("FUNCTION 256", loads(3, 1).op(Asm.EXTENDED, 1).op(Asm.FUNCTION, 0).op(Asm.RETURN));
        bad("COMPARE 256", loads(3, 2).op(Asm.EXTENDED, 1).op(Asm.COMPARE, 0).op(Asm.RETURN));
        good("GO to an EXTENDED", loads(3, 0).op(Asm.EXTENDED, 0).op(Asm.GO_TO, 0));
        bad("GO right behind an EXTENDED", loads(3, 0).op(Asm.EXTENDED, 0).op(Asm.GO_TO, 2));
        bad("GO right behind an EXTENDED that none comes to",
                end(loads(3, 0).op(Asm.GO_ON, 2).op(Asm.EXTENDED), 0));
        good("GO behind a byte of 144 that is an a",
                end(loads(3, 1).op(Asm.GO_TO, 6).op(0, 144), 1));
        good("GO ON counts from behind both", end(loads(3, 0).op(Asm.EXTENDED, 0)
                .op(Asm.GO_ON, 2).op(0), 0));
        bad("a handler right behind an EXTENDED", loads(3, 0).op(Asm.BLOCK, 4).op(Asm.UNBLOCK)
                .op(Asm.EXTENDED).op(Asm.CONSTANT, 0).op(Asm.RETURN));
    }

    /** Handlers lie at the end: there is the KIND, which is returned. */
    private static void blocks() {
        good("a block", loads(2, 0).op(Asm.BLOCK, 6).op(Asm.CONSTANT, 0).op(Asm.UNBLOCK)
                .op(Asm.RETURN).op(Asm.RETURN));
        bad("RETURN in a block", loads(2, 0).op(Asm.BLOCK, 4).op(Asm.CONSTANT, 0)
                .op(Asm.RETURN).op(Asm.RETURN));
        good("RAISE in a block", loads(2, 0).op(Asm.BLOCK, 4).op(Asm.CONSTANT, 0)
                .op(Asm.RAISE, 1).op(Asm.RETURN));
        bad("UNBLOCK without one", end(loads(2, 0).op(Asm.UNBLOCK), 0));
        bad("UNBLOCK without one, and RAISE", loads(2, 1).op(Asm.UNBLOCK).op(Asm.RAISE, 1));
        good("what is above the inner block", innerLevel(1));
        bad("what is below the inner block", innerLevel(2));
        bad("POP of what is below the block", loads(3, 1).op(Asm.BLOCK, 6).op(Asm.POP)
                .op(Asm.UNBLOCK).op(Asm.GO_TO, 8).op(Asm.POP).op(Asm.RETURN));
        bad("DUP of what is below the block", loads(5, 1).op(Asm.BLOCK, 6).op(Asm.DUP)
                .op(Asm.UNBLOCK).op(Asm.RETURN).op(Asm.RETURN));
        bad("SWAP with what is below the block", loads(5, 1).op(Asm.BLOCK, 8).op(Asm.CONSTANT, 0)
                .op(Asm.SWAP).op(Asm.UNBLOCK).op(Asm.RETURN).op(Asm.RETURN));
        good("SWAP above the block", loads(5, 1).op(Asm.BLOCK, 10).op(Asm.CONSTANT, 0)
                .op(Asm.CONSTANT, 0).op(Asm.SWAP).op(Asm.UNBLOCK).op(Asm.RETURN).op(Asm.RETURN));
        bad("a block on a full stack", loads(1, 1).op(Asm.BLOCK, 4).op(Asm.UNBLOCK)
                .op(Asm.RETURN).op(Asm.RETURN));
        good("a block below a full stack", loads(2, 1).op(Asm.BLOCK, 4).op(Asm.UNBLOCK)
                .op(Asm.RETURN).op(Asm.RETURN));
        good("4 blocks", nestedBlocks(4));
        bad("5 blocks", nestedBlocks(5));
        bad("a handler past the end", loads(2, 0).op(Asm.BLOCK, 6).op(Asm.UNBLOCK)
                .op(Asm.CONSTANT, 0).op(Asm.RETURN));
        bad("a handler at an odd place", loads(2, 0).op(Asm.BLOCK, 5).op(Asm.UNBLOCK)
                .op(Asm.CONSTANT, 0).op(Asm.RETURN));
        bad("a handler that is not as it must be", loads(2, 0).op(Asm.BLOCK, 6).op(Asm.UNBLOCK)
                .op(Asm.CONSTANT, 0).op(Asm.RETURN).op(Asm.SWAP).op(Asm.RETURN));
        bad("RETURN in the handler of an inner block", loads(2, 0).op(Asm.BLOCK, 10)
                .op(Asm.BLOCK, 6).op(Asm.UNBLOCK).op(Asm.UNBLOCK).op(Asm.GO_TO, 0)
                .op(Asm.RETURN).op(Asm.RETURN));
        good("UNBLOCK in the handler of an inner block", loads(2, 0).op(Asm.BLOCK, 12)
                .op(Asm.BLOCK, 6).op(Asm.UNBLOCK).op(Asm.UNBLOCK).op(Asm.GO_TO, 0)
                .op(Asm.UNBLOCK).op(Asm.RETURN).op(Asm.RETURN));
    }

    /** The outer block has none, the inner one two; one comes above it, and so many are taken. */
    private static Asm innerLevel(int pops) {
        Asm code = loads(4, 0).op(Asm.BLOCK, 22).op(Asm.CONSTANT, 0).op(Asm.CONSTANT, 0)
                .op(Asm.BLOCK, 14).op(Asm.CONSTANT, 0);
        for (int i = 0; i < pops; i++) {
            code.op(Asm.POP);
        }
        code.op(Asm.GO_TO, code.place());
        while (code.place() < 22) {
            code.op(0);
        }
        return code.op(Asm.RAISE, 1).op(Asm.RETURN);
    }

    /** All handlers raise again, each in a place of its own. */
    private static Asm nestedBlocks(int count) {
        Asm code = loads(2, 0);
        int raise = 4 * count + 2;
        for (int i = 0; i < count; i++) {
            int here = code.place() + 2;
            code.op(Asm.BLOCK, raise + 2 * (count - 1 - i) - here);
        }
        for (int i = 0; i < count; i++) {
            code.op(Asm.UNBLOCK);
        }
        code.op(Asm.GO_TO, 0);
        for (int i = 0; i < count; i++) {
            code.op(Asm.RAISE, 1);
        }
        return code;
    }

    private static void joins() {
        good("a loop with the same height", loads(3, 1).op(Asm.DUP).op(Asm.GO_IF_TRUE, 2).op(Asm.RETURN));
        bad("a loop that grows", loads(9, 1).op(Asm.CONSTANT, 0).op(Asm.GO_TO, 2));
        bad("a loop that shrinks", loads(9, 2).op(Asm.POP).op(Asm.GO_TO, 4));
        bad("two ways with other heights", loads(3, 2).op(Asm.GO_IF_TRUE, 8).op(Asm.CONSTANT, 0)
                .op(Asm.RETURN));
        bad("a loop that grows in blocks", loads(3, 0).op(Asm.BLOCK, 2).op(Asm.GO_TO, 0)
                .op(Asm.RETURN));
        bad("with a block and without", loads(3, 1).op(Asm.GO_IF_TRUE, 6).op(Asm.BLOCK, 4)
                .op(Asm.CONSTANT, 0).op(Asm.RAISE, 1).op(Asm.RETURN));
        bad("blocks with other handlers", twoBlocks(10, 6, 0));
        good("blocks with the same handler", twoBlocks(10, 4, 0));
        bad("blocks with other levels", otherLevels());
        good("inner blocks with the same handler", innerBlocks(10, 4));
        bad("inner blocks with other handlers", innerBlocks(10, 6));
        bad("a handler that is come to without its block, with another height",
                loads(3, 0).op(Asm.BLOCK, 2).op(Asm.UNBLOCK).op(Asm.CONSTANT, 0).op(Asm.RETURN));
        good("a handler that is come to without its block, with the same height",
                loads(3, 0).op(Asm.BLOCK, 4).op(Asm.UNBLOCK).op(Asm.CONSTANT, 0).op(Asm.RETURN));
    }

    /** Two ways, each with a BLOCK, meet at place 12 (CONSTANT); handlers lie at 16 and 18. */
    private static Asm twoBlocks(int first, int second, int constant) {
        return loads(3, 1).op(Asm.GO_IF_TRUE, 10).op(Asm.BLOCK, first).op(Asm.GO_TO, 12).op(0)
                .op(Asm.BLOCK, second).op(Asm.CONSTANT, constant).op(Asm.RAISE, 1)
                .op(Asm.RETURN).op(Asm.RETURN);
    }

    /** In a block with its handler at 22, two ways, each with a BLOCK, meet at place 14. */
    private static Asm innerBlocks(int first, int second) {
        return loads(3, 0).op(Asm.BLOCK, 20).op(Asm.CONSTANT, 0).op(Asm.GO_IF_TRUE, 12)
                .op(Asm.BLOCK, first).op(Asm.GO_TO, 14).op(0).op(Asm.BLOCK, second)
                .op(Asm.CONSTANT, 0).op(Asm.RAISE, 1).op(Asm.RAISE, 1).op(Asm.RAISE, 1).op(Asm.RETURN);
    }

    /** Both ways have 2 on the stack and one block with its handler at 18, that has 1 or 2. */
    private static Asm otherLevels() {
        return loads(5, 2).op(Asm.GO_IF_TRUE, 12).op(Asm.BLOCK, 10).op(Asm.CONSTANT, 0)
                .op(Asm.GO_TO, 16).op(Asm.CONSTANT, 0).op(Asm.BLOCK, 2).op(Asm.GO_TO, 16)
                .op(Asm.RETURN);
    }

    private static void whatIsNotComeTo() {
        good("behind RETURN", loads(3, 1).op(Asm.RETURN).op(0).op(Asm.ROT));
        good("behind RAISE", loads(3, 1).op(Asm.RAISE, 1).op(0));
        good("behind GO TO", loads(3, 0).op(Asm.GO_TO, 0).op(0));
        good("behind GO ON", loads(3, 0).op(Asm.GO_ON, 2).op(0).op(Asm.GO_TO, 0));
        good("constants and names that are not there, where none comes to",
                loads(3, 1).op(Asm.RETURN).op(Asm.CONSTANT, 99).op(Asm.GLOBAL, 99));
    }

    /** The inner ones are looked at first, in the order of their bytes, those in tuples too. */
    private static void numbers() {
        int[] fine = new Asm(0, 0, 1).get("x").op(Asm.RETURN).bytes();
        int[] wrong = new Asm(0, 0, 1).op(0).bytes();
        int[] fineAround = new Asm(0, 0, 1).load(fine).op(Asm.RETURN).bytes();
        int[] wrongAround = new Asm(0, 0, 1).op(0).constant(fine).bytes();
        int[] fineAroundWrong = new Asm(0, 0, 1).load(wrong).op(Asm.RETURN).bytes();
        number("the outer one", 1, new Asm(0, 0, 1).op(0).constant(fine));
        number("the inner one", 0, new Asm(0, 0, 1).load(wrong).op(Asm.RETURN));
        number("both", 0, new Asm(0, 0, 1).op(0).constant(wrong));
        number("the second inner one", 1, outer(fine, wrong, fine));
        number("the third inner one", 2, outer(fine, fine, wrong));
        number("behind one with an inner one", 2, outer(fineAround, wrong));
        number("with an inner one", 1, outer(wrongAround, wrong));
        number("deep in one", 1, outer(fine, fineAroundWrong, wrong));
        number("in a tuple", 2, outer(fine, Asm.tuple(Asm.none(), fine, Asm.tuple(wrong)), wrong));
        number("the last one", 4, new Asm(0, 0, 1).op(0).constant(fineAround)
                .constant(Asm.tuple(fine, fine)));
    }

    private static Asm outer(int[]... constants) {
        Asm code = new Asm(0, 0, 1).op(Asm.CONSTANT, 0).op(Asm.RETURN);
        for (int[] each : constants) {
            code.constant(each);
        }
        return code;
    }

    private static void number(String what, int number, Asm code) {
        CHECK.due(what, new Host().read(code), "IllegalStateException " + 1000 * number);
    }
}
