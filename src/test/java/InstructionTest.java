import java.math.BigInteger;

/** Promise 5, what each instruction does, and the KIND that it raises when it can't. */
public final class InstructionTest {
    private static final Check CHECK = new Check("InstructionTest");
    private static final int[] FUNCTION_OF_ONE = new Asm(1, 1, 1).op(Asm.LOCAL, 0).op(Asm.RETURN).bytes();

    /** The next one of a walker, or NONE. */
    private static final int[] NEXT_OF_ONE = new Asm(1, 1, 2).op(Asm.LOCAL, 0).op(Asm.NEXT, 2)
            .op(Asm.RETURN).load(Asm.none()).op(Asm.RETURN).bytes();

    public static void main(String[] args) {
        order();
        whatLiesBelow();
        truth();
        items();
        equality();
        walking();
        spreading();
        tuples();
        ranges();
        names();
        locals();
        calls();
        extended();
        going();
        CHECK.end();
    }

    private static void due(String what, String want, Asm code) {
        CHECK.due(what, new Host().ending(code), want);
    }

    private static Asm code() {
        return new Asm(0, 4, 10);
    }

    private static Asm range(Asm code, long... bounds) {
        code.get("range");
        for (long each : bounds) {
            code.load(each);
        }
        return code.op(Asm.CALL, bounds.length);
    }

    private static void order() {
        due("SWAP", "(2,1)", code().load(1).load(2).op(Asm.SWAP).op(Asm.TUPLE, 2).op(Asm.RETURN));
        due("ROT", "(9,3,1,2)", code().load(9).load(1).load(2).load(3).op(Asm.ROT).op(Asm.TUPLE, 4)
                .op(Asm.RETURN));
        due("DUP", "(1,2,2)", code().load(1).load(2).op(Asm.DUP).op(Asm.TUPLE, 3).op(Asm.RETURN));
        due("POP", "1", code().load(1).load(2).op(Asm.POP).op(Asm.RETURN));
        due("SUB", "-7", code().load(3).load(10).op(Asm.SUB).op(Asm.RETURN));
    }

    /** Each takes what it takes and no more, and leaves one. */
    private static void whatLiesBelow() {
        int[] tuple = Asm.tuple(Asm.number(5));
        below("NEG", "-1", code().load(77).load(1).op(Asm.NEG));
        below("NOT", "FALSE", code().load(77).load(1).op(Asm.NOT));
        below("MUL", "6", code().load(77).load(2).load(3).op(Asm.MUL));
        below("ADD", "5", code().load(77).load(2).load(3).op(Asm.ADD));
        below("ADD of tuples", "(5,5)", code().load(77).load(tuple).load(tuple).op(Asm.ADD));
        below("ITEM", "5", code().load(77).load(tuple).load(0).op(Asm.ITEM));
        below("COMPARE", "TRUE", code().load(77).load(2).load(3).op(Asm.COMPARE, 0));
        below("WALK", "walker", code().load(77).load(tuple).op(Asm.WALK));
        below("TUPLE", "(2,3)", code().load(77).load(2).load(3).op(Asm.TUPLE, 2));
        below("SPREAD", "5", code().load(77).load(tuple).op(Asm.SPREAD, 1));
        below("FUNCTION", "function/1", code().load(77).load(FUNCTION_OF_ONE).op(Asm.FUNCTION));
        below("CALL", "3", code().load(77).load(FUNCTION_OF_ONE).op(Asm.FUNCTION).load(3).op(Asm.CALL, 1));
        below("CALL of RANGE", "range(0,3,1)", code().load(77).get("range").load(3).op(Asm.CALL, 1));
        below("STORE", "2", code().load(77).load(2).load(3).put("x"));
        below("SET", "2", code().load(77).load(2).load(3).op(Asm.SET, 0));
        below("GO IF TRUE", "2", code().load(77).load(2).load(3).op(Asm.GO_IF_TRUE, 8));
        due("NEXT at its end", "77", code().load(77).load(Asm.tuple()).op(Asm.WALK).op(Asm.NEXT, 2)
                .op(Asm.RETURN).op(Asm.RETURN));
        due("NEXT", "(77,TRUE,5)", code().load(77).load(tuple).op(Asm.WALK).op(Asm.NEXT, 10)
                .op(Asm.SWAP).op(Asm.NOT).op(Asm.NOT).op(Asm.SWAP).op(Asm.GO_TO, 20)
                .op(Asm.RETURN).op(Asm.TUPLE, 3).op(Asm.RETURN));
    }

    private static void below(String what, String top, Asm code) {
        Host host = new Host();
        CHECK.due(what, host.ending(code.op(Asm.TUPLE, 2).op(Asm.RETURN)), "(77," + top + ")");
        int all = host.x.about(6);
        host.x.again();
        host.run(all - 2);
        CHECK.due(what + " leaves no more", host.x.about(3), 2);
    }

    private static void truth() {
        Object[][] values = {{Asm.none(), false}, {Asm.no(), false}, {Asm.yes(), true},
            {Asm.number(0), false}, {Asm.number(BigInteger.ZERO), false}, {Asm.number(-1), true},
            {Asm.number(32768), true}, {Asm.tuple(), false}, {Asm.tuple(Asm.none()), true},
            {FUNCTION_OF_ONE, true}};
        for (Object[] each : values) {
            int[] value = (int[]) each[0];
            boolean holds = (Boolean) each[1];
            String what = "of the object that begins with " + value[0];
            due("NOT " + what, holds ? "FALSE" : "TRUE", code().load(value).op(Asm.NOT).op(Asm.RETURN));
            due("GO IF FALSE " + what, holds ? "1" : "2", code().load(value).op(Asm.GO_IF_FALSE, 8)
                    .load(1).op(Asm.RETURN).load(2).op(Asm.RETURN));
            due("GO IF TRUE " + what, holds ? "2" : "1", code().load(value).op(Asm.GO_IF_TRUE, 8)
                    .load(1).op(Asm.RETURN).load(2).op(Asm.RETURN));
        }
        truthOf("an empty range", "TRUE", range(code(), 5, 5));
        truthOf("an empty range with a wide step", "TRUE", range(code(), 5, 5, 7));
        truthOf("an empty range downwards with a wide step", "TRUE", range(code(), 5, 5, -7));
        truthOf("a range", "FALSE", range(code(), 5, 6));
        truthOf("a range downwards", "FALSE", range(code(), 5, 4, -1));
        truthOf("an empty range downwards", "TRUE", range(code(), 4, 5, -1));
        truthOf("a walker over none", "FALSE", code().load(Asm.tuple()).op(Asm.WALK));
        truthOf("a function", "FALSE", code().load(FUNCTION_OF_ONE).op(Asm.FUNCTION));
        truthOf("RANGE", "FALSE", code().get("range"));
        truthOf("KIND 0", "FALSE", code().get("typ"));
    }

    private static void truthOf(String what, String want, Asm code) {
        due("NOT of " + what, want, code.op(Asm.NOT).op(Asm.RETURN));
    }

    private static void items() {
        int[] tuple = Asm.tuple(Asm.number(10), Asm.number(11), Asm.number(12));
        String[] want = {"raises 2", "10", "11", "12", "10", "11", "12", "raises 2"};
        for (int i = -4; i < 4; i++) {
            due("item " + i, want[i + 4], code().load(tuple).load(i).op(Asm.ITEM).op(Asm.RETURN));
            due("item " + i + " of a range", want[i + 4],
                    range(code(), 10, 13).load(i).op(Asm.ITEM).op(Asm.RETURN));
        }
        due("item FALSE", "10", code().load(tuple).load(Asm.no()).op(Asm.ITEM).op(Asm.RETURN));
        due("item TRUE", "11", code().load(tuple).load(Asm.yes()).op(Asm.ITEM).op(Asm.RETURN));
        for (int bits : new int[] {31, 32, 45, 63, 64, 239}) {
            BigInteger far = BigInteger.ONE.shiftLeft(bits);
            due("item 2^" + bits, "raises 2",
                    code().load(tuple).load(Asm.number(far)).op(Asm.ITEM).op(Asm.RETURN));
            due("item -2^" + bits, "raises 2",
                    code().load(tuple).load(Asm.number(far.negate())).op(Asm.ITEM).op(Asm.RETURN));
        }
        due("item 0 of none", "raises 2", code().load(Asm.tuple()).load(0).op(Asm.ITEM).op(Asm.RETURN));
        due("item -1 of the longest range", "2147483646", range(code(), Integer.MIN_VALUE,
                Integer.MAX_VALUE).load(-1).op(Asm.ITEM).op(Asm.RETURN));
        due("item 4294967294 of it", "2147483646", range(code(), Integer.MIN_VALUE,
                Integer.MAX_VALUE).load(4294967294L).op(Asm.ITEM).op(Asm.RETURN));
        due("item 4294967295 of it", "raises 2", range(code(), Integer.MIN_VALUE,
                Integer.MAX_VALUE).load(4294967295L).op(Asm.ITEM).op(Asm.RETURN));
        due("item -4294967295 of it", "-2147483648", range(code(), Integer.MIN_VALUE,
                Integer.MAX_VALUE).load(-4294967295L).op(Asm.ITEM).op(Asm.RETURN));
        due("item -1 downwards", "-2147483647", range(code(), Integer.MAX_VALUE, Integer.MIN_VALUE, -1)
                .load(-1).op(Asm.ITEM).op(Asm.RETURN));
        due("the widest step", "2147483647", range(code(), Integer.MAX_VALUE, Integer.MIN_VALUE,
                Integer.MIN_VALUE).load(0).op(Asm.ITEM).op(Asm.RETURN));
        due("its second one", "-1", range(code(), Integer.MAX_VALUE, Integer.MIN_VALUE,
                Integer.MIN_VALUE).load(1).op(Asm.ITEM).op(Asm.RETURN));
        due("its third one", "raises 2", range(code(), Integer.MAX_VALUE, Integer.MIN_VALUE,
                Integer.MIN_VALUE).load(2).op(Asm.ITEM).op(Asm.RETURN));
        due("the last one of 10 .. 20 by 3", "19",
                range(code(), 10, 20, 3).load(-1).op(Asm.ITEM).op(Asm.RETURN));
        due("the last one of 10 .. 19 by 3", "16",
                range(code(), 10, 19, 3).load(-1).op(Asm.ITEM).op(Asm.RETURN));
        due("the last one of 10 .. 0 by -3", "1",
                range(code(), 10, 0, -3).load(-1).op(Asm.ITEM).op(Asm.RETURN));
    }

    /** The same ones are DUPed; others are made twice. */
    private static void equality() {
        same("a function", "TRUE", code().load(FUNCTION_OF_ONE).op(Asm.FUNCTION).op(Asm.DUP));
        same("two functions of one CODE", "FALSE", code().load(FUNCTION_OF_ONE).op(Asm.DUP)
                .op(Asm.FUNCTION).op(Asm.SWAP).op(Asm.FUNCTION));
        same("a CODE", "TRUE", code().load(FUNCTION_OF_ONE).op(Asm.CONSTANT, 0));
        same("two CODEs", "FALSE", code().load(FUNCTION_OF_ONE).load(FUNCTION_OF_ONE));
        same("a walker", "TRUE", code().load(Asm.tuple()).op(Asm.WALK).op(Asm.DUP).op(Asm.WALK));
        same("two walkers", "FALSE", code().load(Asm.tuple()).op(Asm.DUP).op(Asm.WALK).op(Asm.SWAP)
                .op(Asm.WALK));
        same("RANGE", "TRUE", code().get("range").get("range"));
        same("a KIND", "TRUE", code().get("zero").get("zero"));
        same("two KINDs", "FALSE", code().get("zero").get("index"));
        same("KIND and RANGE", "FALSE", code().get("typ").get("range"));
        same("NONEs", "TRUE", code().load(Asm.none()).load(Asm.none()));
        same("NONE and FALSE", "FALSE", code().load(Asm.none()).load(Asm.no()));
        same("FALSE and 0", "TRUE", code().load(Asm.no()).load(0));
        same("1 and TRUE", "TRUE", code().load(1).load(Asm.yes()));
        same("TRUE and TRUE", "TRUE", code().load(Asm.yes()).load(Asm.yes()));
        same("FALSE and TRUE", "FALSE", code().load(Asm.no()).load(Asm.yes()));
        same("5 and 5, written otherwise", "TRUE",
                code().load(5).load(Asm.number(BigInteger.valueOf(5))));
        same("5 and -5", "FALSE", code().load(5).load(-5));
        same("tuples", "TRUE", code().load(deepTuple(1)).load(deepTuple(1)));
        same("tuples with another value deep in", "FALSE", code().load(deepTuple(1)).load(deepTuple(2)));
        due("tuples 4 deep", "TRUE", twoNested(5, 5).op(Asm.COMPARE, 2).op(Asm.RETURN));
        due("tuples 4 deep with other values", "FALSE", twoNested(5, 6).op(Asm.COMPARE, 2).op(Asm.RETURN));
        same("tuples with TRUE for 1", "TRUE", code().load(Asm.tuple(Asm.number(1)))
                .load(Asm.tuple(Asm.yes())));
        same("tuples of other lengths", "FALSE", code().load(Asm.tuple(Asm.none()))
                .load(Asm.tuple(Asm.none(), Asm.none())));
        same("an empty tuple and NONE", "FALSE", code().load(Asm.tuple()).load(Asm.none()));
        same("empty tuples", "TRUE", code().load(Asm.tuple()).load(Asm.tuple()));
        same("ranges", "TRUE", range(range(code(), 1, 5, 2), 1, 5, 2));
        same("ranges that walk over the same", "FALSE", range(range(code(), 1, 5, 2), 1, 4, 2));
        same("ranges from elsewhere", "FALSE", range(range(code(), 1, 5, 2), 2, 5, 2));
        same("ranges with other steps", "FALSE", range(range(code(), 1, 2, 1), 1, 2, 2));
        same("tuples of walkers", "FALSE", code().load(Asm.tuple()).op(Asm.WALK).op(Asm.TUPLE, 1)
                .load(Asm.tuple()).op(Asm.WALK).op(Asm.TUPLE, 1));
        due("COMPARE 10 of one KIND", "TRUE",
                code().get("deep").get("deep").op(Asm.COMPARE, 10).op(Asm.RETURN));
        due("COMPARE 10 of two KINDs", "FALSE",
                code().get("deep").get("over").op(Asm.COMPARE, 10).op(Asm.RETURN));
        due("COMPARE 10 with RANGE", "raises 0",
                code().get("range").get("over").op(Asm.COMPARE, 10).op(Asm.RETURN));
        due("COMPARE 10 with a number", "raises 0",
                code().get("over").load(6).op(Asm.COMPARE, 10).op(Asm.RETURN));
        due("COMPARE 10 of RANGEs", "raises 0",
                code().get("range").get("range").op(Asm.COMPARE, 10).op(Asm.RETURN));
    }

    private static Asm twoNested(int first, int second) {
        return code().load(Asm.tuple(Asm.tuple(Asm.tuple(Asm.number(first))))).op(Asm.TUPLE, 1)
                .load(Asm.tuple(Asm.tuple(Asm.tuple(Asm.number(second))))).op(Asm.TUPLE, 1);
    }

    private static int[] deepTuple(int innermost) {
        return Asm.tuple(Asm.none(), Asm.tuple(Asm.tuple(Asm.number(innermost)), Asm.no()));
    }

    /** Asks COMPARE 2 and 3 of the two on top. */
    private static void same(String what, String want, Asm code) {
        int[] before = code.op(Asm.TUPLE, 2).op(Asm.DUP).op(Asm.SPREAD, 2).op(Asm.COMPARE, 2)
                .op(Asm.SWAP).op(Asm.SPREAD, 2).op(Asm.COMPARE, 3).op(Asm.TUPLE, 2).op(Asm.RETURN)
                .bytes();
        Host host = new Host();
        host.read(before);
        host.run(200);
        String other = want.equals("TRUE") ? "FALSE" : "TRUE";
        CHECK.due("equal: " + what, host.ended(), "(" + want + "," + other + ")");
    }

    private static void walking() {
        due("a walk over a tuple", "(1,2)", collected(code().load(Asm.tuple(Asm.number(1), Asm.number(2)))));
        due("a walk over none", "()", collected(code().load(Asm.tuple())));
        due("a walk over a range", "(4,7,10)", collected(range(code(), 4, 11, 3)));
        due("a walk downwards", "(4,1,-2)", collected(range(code(), 4, -3, -3)));
        due("a walk over an empty range", "()", collected(range(code(), 4, 4)));
        due("a walk to the highest", "(2147483645,2147483646)",
                collected(range(code(), 2147483645, 2147483647)));
        due("a walk to the lowest", "(-2147483646,-2147483647)",
                collected(range(code(), -2147483646, -2147483648, -1)));
        due("a wide walk", "(-2147483648,-1,2147483646)",
                collected(range(code(), Integer.MIN_VALUE, Integer.MAX_VALUE, Integer.MAX_VALUE)));
        int[] two = Asm.tuple(Asm.number(1), Asm.number(2));
        Asm walks = code().load(two).op(Asm.WALK).op(Asm.SET, 0).load(NEXT_OF_ONE).op(Asm.FUNCTION)
                .op(Asm.SET, 1);
        for (int i = 0; i < 4; i++) {
            walks.op(Asm.LOCAL, 1).op(Asm.LOCAL, 0).op(Asm.CALL, 1);
        }
        due("a walker has one place everywhere, and stays at its end", "(1,2,NONE,NONE)",
                walks.op(Asm.TUPLE, 4).op(Asm.RETURN));
        for (String each : new String[] {"range", "typ"}) {
            due("WALK of " + each, "raises 0", code().get(each).op(Asm.WALK).op(Asm.RETURN));
        }
        for (int[] each : new int[][] {Asm.none(), Asm.yes(), Asm.number(3), FUNCTION_OF_ONE}) {
            due("WALK of " + each[0], "raises 0", code().load(each).op(Asm.WALK).op(Asm.RETURN));
        }
        due("NEXT of a tuple", "raises 0", code().load(Asm.tuple()).op(Asm.NEXT, 2).op(Asm.RETURN)
                .load(Asm.none()).op(Asm.RETURN));
    }

    /** A tuple of all that a walk over the top one comes to, joined one by one. */
    private static Asm collected(Asm code) {
        code.load(Asm.tuple()).op(Asm.SET, 0).op(Asm.WALK);
        int loop = code.place();
        return code.op(Asm.NEXT, 12).op(Asm.TUPLE, 1).op(Asm.LOCAL, 0).op(Asm.SWAP).op(Asm.ADD)
                .op(Asm.SET, 0).op(Asm.GO_TO, loop).op(Asm.LOCAL, 0).op(Asm.RETURN);
    }

    private static void spreading() {
        int[] three = Asm.tuple(Asm.number(1), Asm.number(2), Asm.number(3));
        due("SPREAD: the first on top", "(3,2,1)",
                code().load(three).op(Asm.SPREAD, 3).op(Asm.TUPLE, 3).op(Asm.RETURN));
        due("SPREAD into fewer", "raises 3", code().load(7).load(three).op(Asm.SPREAD, 2).op(Asm.RETURN));
        due("SPREAD into more", "raises 3", code().load(three).op(Asm.SPREAD, 4).op(Asm.RETURN));
        due("SPREAD of none", "7", code().load(7).load(Asm.tuple()).op(Asm.SPREAD, 0).op(Asm.RETURN));
        due("SPREAD of a range", "raises 0", range(code(), 3).op(Asm.SPREAD, 3).op(Asm.RETURN));
        due("SPREAD of a number", "raises 0", code().load(1).op(Asm.SPREAD, 1).op(Asm.RETURN));
    }

    private static void tuples() {
        due("TUPLE 0", "()", code().op(Asm.TUPLE, 0).op(Asm.RETURN));
        int[] six = Asm.tuple(Asm.none(), Asm.none(), Asm.none(), Asm.none(), Asm.none(), Asm.none());
        due("6 and 6", "(NONE,NONE,NONE,NONE,NONE,NONE,NONE,NONE,NONE,NONE,NONE,NONE)",
                code().load(six).op(Asm.DUP).op(Asm.ADD).op(Asm.RETURN));
        due("12 and 1", "raises 6", code().load(six).op(Asm.DUP).op(Asm.ADD)
                .load(Asm.tuple(Asm.none())).op(Asm.ADD).op(Asm.RETURN));
        due("12 and 0", "TRUE", code().load(six).op(Asm.DUP).op(Asm.ADD).op(Asm.DUP)
                .load(Asm.tuple()).op(Asm.ADD).op(Asm.COMPARE, 2).op(Asm.RETURN));
        due("one behind the other", "(1,2,3)", code().load(Asm.tuple(Asm.number(1)))
                .load(Asm.tuple(Asm.number(2), Asm.number(3))).op(Asm.ADD).op(Asm.RETURN));
        due("4 deep", "((((5))))", nested(4).op(Asm.RETURN));
        due("5 deep", "raises 6", nested(5).op(Asm.RETURN));
        due("ADD does not deepen", "((((5))),(((5))))", nested(4).op(Asm.DUP).op(Asm.ADD).op(Asm.RETURN));
        due("the deepest of several counts", "raises 6",
                nested(4).load(1).op(Asm.TUPLE, 2).op(Asm.RETURN));
        due("a walker over a deep one is not deep", "(walker)",
                nested(4).op(Asm.WALK).op(Asm.TUPLE, 1).op(Asm.RETURN));
        for (int[] other : new int[][] {Asm.none(), Asm.number(1), Asm.yes()}) {
            due("a tuple and " + other[0], "raises 0",
                    code().load(six).load(other).op(Asm.ADD).op(Asm.RETURN));
            due(other[0] + " and a tuple", "raises 0",
                    code().load(other).load(six).op(Asm.ADD).op(Asm.RETURN));
        }
        due("2 times a tuple", "raises 0", code().load(six).load(2).op(Asm.MUL).op(Asm.RETURN));
        due("tuples are not less", "raises 0", code().load(six).load(six).op(Asm.COMPARE, 0).op(Asm.RETURN));
    }

    private static Asm nested(int deep) {
        Asm code = code().load(5);
        for (int i = 0; i < deep; i++) {
            code.op(Asm.TUPLE, 1);
        }
        return code;
    }

    private static void ranges() {
        due("to", "range(0,7,1)", range(code(), 7).op(Asm.RETURN));
        due("from, to", "range(3,7,1)", range(code(), 3, 7).op(Asm.RETURN));
        due("from, to, step", "range(3,7,-2)", range(code(), 3, 7, -2).op(Asm.RETURN));
        due("the widest", "range(-2147483648,2147483647,-2147483648)", range(code(),
                Integer.MIN_VALUE, Integer.MAX_VALUE, Integer.MIN_VALUE).op(Asm.RETURN));
        due("no bounds", "raises 0", range(code()).op(Asm.RETURN));
        due("four bounds", "raises 0", range(code(), 1, 2, 3, 4).op(Asm.RETURN));
        due("step 0", "raises 3", range(code(), 1, 2, 0).op(Asm.RETURN));
        due("step FALSE", "raises 3", code().get("range").load(1).load(2).load(Asm.no()).op(Asm.CALL, 3)
                .op(Asm.RETURN));
        due("TRUE and FALSE count", "range(0,1,1)", code().get("range").load(Asm.no()).load(Asm.yes())
                .load(Asm.yes()).op(Asm.CALL, 3).op(Asm.RETURN));
        due("too far up", "raises 6", range(code(), 2147483648L).op(Asm.RETURN));
        due("too far down", "raises 6", range(code(), -2147483649L).op(Asm.RETURN));
        due("too far, before step 0", "raises 6", range(code(), 1L << 60, 2, 0).op(Asm.RETURN));
        due("no number, before too far", "raises 0", code().get("range").load(1L << 60)
                .load(Asm.none()).op(Asm.CALL, 2).op(Asm.RETURN));
        due("no number", "raises 0", code().get("range").load(Asm.tuple()).op(Asm.CALL, 1).op(Asm.RETURN));
        due("too far by 200 bits", "raises 6", code().get("range")
                .load(Asm.number(BigInteger.ONE.shiftLeft(200))).op(Asm.CALL, 1).op(Asm.RETURN));
    }

    private static void names() {
        String[] built = {"typ", "zero", "index", "value", "name", "deep", "over"};
        for (int i = 0; i < built.length; i++) {
            due(built[i], "KIND" + i, code().get(built[i]).op(Asm.RETURN));
            due("RAISE " + built[i], "raises " + i, code().get(built[i]).op(Asm.RAISE, 1));
        }
        due("range", "RANGE", code().get("range").op(Asm.RETURN));
        for (String other : new String[] {"ranges", "rang", "e", "type", "none", "egnar"}) {
            due("GLOBAL " + other, "raises 4", code().get(other).op(Asm.RETURN));
        }
        due("stored over a built one", "5", code().load(5).put("zero").get("zero").op(Asm.RETURN));
        due("stored twice", "6", code().load(5).put("a").load(6).put("a").get("a").op(Asm.RETURN));
        Host host = new Host();
        for (int i = 0; i < 16; i++) {
            CHECK.due("name " + i, host.ending(code().load(i).op(Asm.DUP).put("n" + (char) ('a' + i))
                    .op(Asm.RETURN)), "" + i);
        }
        CHECK.due("16 names", host.x.about(7), 16);
        CHECK.due("one more", host.ending(code().load(1).put("more").get("more").op(Asm.RETURN)), "raises 6");
        CHECK.due("one more of the built ones", host.ending(code().load(1).put("range").get("range")
                .op(Asm.RETURN)), "raises 6");
        CHECK.due("still 16 names", host.x.about(7), 16);
        CHECK.due("an old one anew", host.ending(code().load(99).put("np").get("np").op(Asm.RETURN)), "99");
        CHECK.due("the built one is as before", host.ending(code().get("range").op(Asm.RETURN)), "RANGE");
    }

    private static void locals() {
        due("SET and LOCAL", "(2,1)", code().load(1).op(Asm.SET, 0).load(2).op(Asm.SET, 3)
                .op(Asm.LOCAL, 3).op(Asm.LOCAL, 0).op(Asm.TUPLE, 2).op(Asm.RETURN));
        due("an unset one", "raises 4", code().load(1).op(Asm.SET, 0).op(Asm.LOCAL, 1).op(Asm.RETURN));
        due("the arguments of the first frame are unset", "raises 4",
                new Asm(2, 2, 2).op(Asm.LOCAL, 0).op(Asm.RETURN));
    }

    private static void calls() {
        int[] subtract = new Asm(2, 3, 2).op(Asm.LOCAL, 0).op(Asm.LOCAL, 1).op(Asm.SUB).op(Asm.RETURN)
                .bytes();
        due("the top one last", "-3", code().load(subtract).op(Asm.FUNCTION).load(2).load(5)
                .op(Asm.CALL, 2).op(Asm.RETURN));
        due("too few", "raises 0", code().load(subtract).op(Asm.FUNCTION).load(2).op(Asm.CALL, 1)
                .op(Asm.RETURN));
        due("too many", "raises 0", code().load(subtract).op(Asm.FUNCTION).load(2).load(2).load(2)
                .op(Asm.CALL, 3).op(Asm.RETURN));
        due("a function", "function/2", code().load(subtract).op(Asm.FUNCTION).op(Asm.RETURN));
        due("a CODE", "code/2", code().load(subtract).op(Asm.RETURN));
        due("a CODE is not called", "raises 0", code().load(subtract).load(2).load(5).op(Asm.CALL, 2)
                .op(Asm.RETURN));
        for (int[] each : new int[][] {Asm.none(), Asm.yes(), Asm.number(1), Asm.tuple()}) {
            due("FUNCTION of " + each[0], "raises 0", code().load(each).op(Asm.FUNCTION).op(Asm.RETURN));
            due("CALL of " + each[0], "raises 0", code().load(each).op(Asm.CALL, 0).op(Asm.RETURN));
            due("RAISE of " + each[0], "raises 0", code().load(each).op(Asm.RAISE, 1));
        }
        due("a KIND is not called", "raises 0", code().get("typ").op(Asm.CALL, 0).op(Asm.RETURN));
        due("FUNCTION of a function", "raises 0", code().load(subtract).op(Asm.FUNCTION)
                .op(Asm.FUNCTION).op(Asm.RETURN));
        int[] unset = new Asm(1, 2, 2).op(Asm.LOCAL, 1).op(Asm.RETURN).bytes();
        int[] setting = new Asm(1, 2, 2).load(8).op(Asm.SET, 1).op(Asm.LOCAL, 0).op(Asm.RETURN).bytes();
        due("locals of a call are unset", "raises 4", code().load(setting).op(Asm.FUNCTION).load(1)
                .op(Asm.CALL, 1).op(Asm.POP).load(unset).op(Asm.FUNCTION).load(1).op(Asm.CALL, 1)
                .op(Asm.RETURN));
        due("locals of a call are unset, whatever lay above", "raises 4", code().load(unset)
                .op(Asm.FUNCTION).load(1).load(2).load(3).op(Asm.POP).op(Asm.POP).op(Asm.CALL, 1)
                .op(Asm.RETURN));
        due("each frame has its own locals", "(1,4)", code().load(4).op(Asm.SET, 1).load(setting)
                .op(Asm.FUNCTION).load(1).op(Asm.CALL, 1).op(Asm.LOCAL, 1).op(Asm.TUPLE, 2).op(Asm.RETURN));
        int[] storing = new Asm(0, 0, 2).load(3).op(Asm.DUP).put("x").op(Asm.RETURN).bytes();
        due("names belong to all frames", "(3,3)", code().load(storing).op(Asm.FUNCTION).op(Asm.CALL, 0)
                .name("y").get("x").op(Asm.TUPLE, 2).op(Asm.RETURN));
    }

    private static void extended() {
        Asm far = code().op(Asm.EXTENDED, 0).op(Asm.GO_ON, 140);
        while (far.place() < 144) {
            far.op(0);
        }
        Host host = new Host();
        CHECK.due("GO ON by 140", host.ending(far.load(3).op(Asm.RETURN)), "3");
        CHECK.due("both count as one", host.x.about(6), 3);
        CHECK.due("EXTENDED before what raises", host.ending(code().op(Asm.BLOCK, 6).load(1)
                .op(Asm.EXTENDED, 0).op(Asm.SPREAD, 0).op(Asm.RETURN)), "IllegalStateException 0");
        CHECK.due("EXTENDED before LOCAL", host.ending(code().load(1).op(Asm.SET, 2)
                .op(Asm.EXTENDED, 0).op(Asm.LOCAL, 2).op(Asm.RETURN)), "1");
        CHECK.due("EXTENDED before POP", host.ending(code().load(1).load(2)
                .op(Asm.EXTENDED, 7).op(Asm.POP, 7).op(Asm.RETURN)), "1");
    }

    private static void going() {
        due("GO TO backwards", "raises 4", code().op(Asm.GO_TO, 6).get("no").op(Asm.RETURN)
                .op(Asm.GO_TO, 2));
        due("GO ON", "2", code().op(Asm.GO_ON, 4).load(1).op(Asm.RETURN).load(2).op(Asm.RETURN));
        due("a loop that counts down", "(0,55)", code().load(10).op(Asm.SET, 0).load(0).op(Asm.SET, 1)
                .op(Asm.LOCAL, 0).op(Asm.LOCAL, 1).op(Asm.ADD).op(Asm.SET, 1).op(Asm.LOCAL, 0)
                .load(1).op(Asm.SUB).op(Asm.DUP).op(Asm.SET, 0).op(Asm.GO_IF_TRUE, 8)
                .op(Asm.LOCAL, 0).op(Asm.LOCAL, 1).op(Asm.TUPLE, 2).op(Asm.RETURN));
    }
}
