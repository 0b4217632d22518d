import java.math.BigInteger;

/** The boundaries of the term VALUES: how large, how many, how deep, which are FALSE, which are equal. */
public final class TermsValuesTest {
    private static final BigInteger ONE = BigInteger.ONE;
    private static final BigInteger MOST = Samples.MOST;
    private static final long HIGHEST = Integer.MAX_VALUE;
    private static final long LOWEST = Integer.MIN_VALUE;

    public static void main(String[] args) throws ReflectiveOperationException {
        Cases.of(TermsValuesTest.class);
    }

    private static Asm code() {
        return new Asm(0, 2, 10);
    }

    private static String ending(Asm code) {
        return new Host().ending(code.op(Asm.RETURN));
    }

    private static String of(int what, BigInteger left, BigInteger right) {
        return ending(code().load(Asm.number(left)).load(Asm.number(right)).op(what));
    }

    private static BigInteger big(long value) {
        return BigInteger.valueOf(value);
    }

    // ---- numbers ----

    static void values_numberOf240Bits_byAdd(Check check) {
        check.due("the most and -1", of(Asm.ADD, MOST, big(-1)), "" + MOST.subtract(ONE));
        check.due("the most and 0", of(Asm.ADD, MOST, big(0)), "" + MOST);
        check.due("the most and 1", of(Asm.ADD, MOST, ONE), "raises 6");
        check.due("1 and the most", of(Asm.ADD, ONE, MOST), "raises 6");
        check.due("one less and 1", of(Asm.ADD, MOST.subtract(ONE), ONE), "" + MOST);
        check.due("one less and 2", of(Asm.ADD, MOST.subtract(ONE), big(2)), "raises 6");
        check.due("the most and the most", of(Asm.ADD, MOST, MOST), "raises 6");
        check.due("the least and -1", of(Asm.ADD, MOST.negate(), big(-1)), "raises 6");
        check.due("the least and 0", of(Asm.ADD, MOST.negate(), big(0)), "" + MOST.negate());
        check.due("the least and 1", of(Asm.ADD, MOST.negate(), ONE), "" + MOST.negate().add(ONE));
        check.due("2^239 and 2^239", of(Asm.ADD, ONE.shiftLeft(239), ONE.shiftLeft(239)), "raises 6");
        check.due("2^239 and one less", of(Asm.ADD, ONE.shiftLeft(239), ONE.shiftLeft(239).subtract(ONE)),
                "" + MOST);
    }

    static void values_numberOf240Bits_bySub(Check check) {
        check.due("the most less 1", of(Asm.SUB, MOST, ONE), "" + MOST.subtract(ONE));
        check.due("the most less 0", of(Asm.SUB, MOST, big(0)), "" + MOST);
        check.due("the most less -1", of(Asm.SUB, MOST, big(-1)), "raises 6");
        check.due("the least less 1", of(Asm.SUB, MOST.negate(), ONE), "raises 6");
        check.due("the least less 0", of(Asm.SUB, MOST.negate(), big(0)), "" + MOST.negate());
        check.due("the least less -1", of(Asm.SUB, MOST.negate(), big(-1)), "" + MOST.negate().add(ONE));
        check.due("0 less the most", of(Asm.SUB, big(0), MOST), "" + MOST.negate());
        check.due("-1 less the most", of(Asm.SUB, big(-1), MOST), "raises 6");
        check.due("the most less itself", of(Asm.SUB, MOST, MOST), "0");
        check.due("the most less the least", of(Asm.SUB, MOST, MOST.negate()), "raises 6");
    }

    static void values_numberOf240Bits_byMul(Check check) {
        BigInteger half = ONE.shiftLeft(120);
        check.due("the most by 1", of(Asm.MUL, MOST, ONE), "" + MOST);
        check.due("the most by -1", of(Asm.MUL, MOST, big(-1)), "" + MOST.negate());
        check.due("the most by 0", of(Asm.MUL, MOST, big(0)), "0");
        check.due("the most by 2", of(Asm.MUL, MOST, big(2)), "raises 6");
        check.due("the least by -2", of(Asm.MUL, MOST.negate(), big(-2)), "raises 6");
        check.due("the most by itself", of(Asm.MUL, MOST, MOST), "raises 6");
        check.due("2^120 by 2^119", of(Asm.MUL, half, half.shiftRight(1)), "" + ONE.shiftLeft(239));
        check.due("2^120 by 2^120", of(Asm.MUL, half, half), "raises 6");
        check.due("just the most", of(Asm.MUL, half.subtract(ONE), half.add(ONE)), "" + MOST);
        check.due("just the least", of(Asm.MUL, half.subtract(ONE), half.add(ONE).negate()), "" + MOST.negate());
        check.due("2^239 by 2", of(Asm.MUL, ONE.shiftLeft(239), big(2)), "raises 6");
        check.due("2^238 by 2", of(Asm.MUL, ONE.shiftLeft(238), big(2)), "" + ONE.shiftLeft(239));
    }

    /** Products of digits of 32767, where every carry is the largest. */
    static void values_numberOf240Bits_carries(Check check) {
        BigInteger half = ONE.shiftLeft(120).subtract(ONE);
        check.due("(2^120 - 1) squared", of(Asm.MUL, half, half), "" + half.multiply(half));
        check.due("32767 squared", of(Asm.MUL, big(32767), big(32767)), "1073676289");
        check.due("2^30 - 1 squared", of(Asm.MUL, big(1073741823), big(1073741823)), "1152921502459363329");
        check.due("the most less 2^225", of(Asm.SUB, MOST, ONE.shiftLeft(225)),
                "" + MOST.subtract(ONE.shiftLeft(225)));
        check.due("2^239 less 1", of(Asm.SUB, ONE.shiftLeft(239), ONE), "" + ONE.shiftLeft(239).subtract(ONE));
    }

    /** A short calculation behind a long one has nothing of it. */
    static void values_numberOf240Bits_shortBehindLong(Check check) {
        BigInteger half = ONE.shiftLeft(120).subtract(ONE);
        int[][] whats = {{Asm.MUL, 6}, {Asm.ADD, 5}, {Asm.SUB, 1}, {Asm.DIV, 1}, {Asm.MOD, 1}};
        for (int before : new int[] {Asm.MUL, Asm.ADD, Asm.SUB, Asm.DIV, Asm.MOD}) {
            for (int[] what : whats) {
                check.due(what[0] + " behind " + before, ending(code().load(Asm.number(half.add(big(7))))
                        .load(Asm.number(half.shiftRight(40))).op(before).op(Asm.POP).load(3).load(2)
                        .op(what[0])), "" + what[1]);
            }
        }
    }

    static void values_numberOf240Bits_byNegDivMod(Check check) {
        check.due("NEG of the most", ending(code().load(Asm.number(MOST)).op(Asm.NEG)), "" + MOST.negate());
        check.due("NEG of the least", ending(code().load(Asm.number(MOST.negate())).op(Asm.NEG)), "" + MOST);
        check.due("the most DIV -1", of(Asm.DIV, MOST, big(-1)), "" + MOST.negate());
        check.due("the least DIV 1", of(Asm.DIV, MOST.negate(), ONE), "" + MOST.negate());
        check.due("the least DIV 2", of(Asm.DIV, MOST.negate(), big(2)), "" + ONE.shiftLeft(239).negate());
        check.due("the most DIV itself", of(Asm.DIV, MOST, MOST), "1");
        check.due("1 DIV the least", of(Asm.DIV, ONE, MOST.negate()), "-1");
        check.due("1 MOD the least", of(Asm.MOD, ONE, MOST.negate()), "" + MOST.negate().add(ONE));
        check.due("-1 MOD the most", of(Asm.MOD, big(-1), MOST), "" + MOST.subtract(ONE));
        check.due("the most MOD itself", of(Asm.MOD, MOST, MOST), "0");
    }

    /** Where Java's own numbers and the digits wrap around, these do not. */
    static void values_numberWrapsNowhere(Check check) {
        for (int bits : new int[] {7, 8, 15, 16, 30, 31, 32, 45, 60, 62, 63, 64, 90, 225}) {
            BigInteger power = ONE.shiftLeft(bits);
            check.due("2^" + bits + " by ADD", of(Asm.ADD, power.subtract(ONE), ONE), "" + power);
            check.due("-2^" + bits + " by SUB", of(Asm.SUB, power.negate().add(ONE), ONE), "" + power.negate());
            check.due("2^" + bits + " less 1", of(Asm.SUB, power, ONE), "" + power.subtract(ONE));
            check.due("2^" + bits + " by MUL", of(Asm.MUL, power.shiftRight(1), big(2)), "" + power);
        }
        check.due("NEG of -2^31", ending(code().load(LOWEST).op(Asm.NEG)), "2147483648");
        check.due("-2^31 DIV -1", of(Asm.DIV, big(LOWEST), big(-1)), "2147483648");
        check.due("-2^63 DIV -1", of(Asm.DIV, big(Long.MIN_VALUE), big(-1)), "9223372036854775808");
    }

    static void values_numberAroundZero(Check check) {
        check.due("1 less 1", of(Asm.SUB, ONE, ONE), "0");
        check.due("0 less 1", of(Asm.SUB, big(0), ONE), "-1");
        check.due("-1 and 1", of(Asm.ADD, big(-1), ONE), "0");
        check.due("-1 and 2", of(Asm.ADD, big(-1), big(2)), "1");
        check.due("0 by -1", of(Asm.MUL, big(0), big(-1)), "0");
        check.due("NEG of 0", ending(code().load(0).op(Asm.NEG)), "0");
    }

    // ---- tuples ----

    static void values_tupleOf12_and13(Check check) {
        int[][] pairs = {{0, 0}, {0, 12}, {12, 0}, {6, 6}, {11, 1}, {1, 11}, {5, 6}};
        for (int[] pair : pairs) {
            check.due(pair[0] + " and " + pair[1], new Host().ending(code().load(Samples.nones(pair[0]))
                    .load(Samples.nones(pair[1])).op(Asm.ADD).load(Samples.nones(pair[0] + pair[1]))
                    .op(Asm.COMPARE, 2).op(Asm.RETURN)), "TRUE");
        }
        int[][] tooMany = {{12, 1}, {1, 12}, {6, 7}, {7, 6}, {12, 12}};
        for (int[] pair : tooMany) {
            check.due(pair[0] + " and " + pair[1], ending(code().load(Samples.nones(pair[0]))
                    .load(Samples.nones(pair[1])).op(Asm.ADD)), "raises 6");
        }
    }

    private static Asm deep(Asm code, int tuples) {
        for (int i = 0; i < tuples; i++) {
            code.op(Asm.TUPLE, 1);
        }
        return code;
    }

    static void values_tuple4Deep_and5(Check check) {
        check.due("3 around a number", ending(deep(code().load(7), 3)), "(((7)))");
        check.due("4 around a number", ending(deep(code().load(7), 4)), "((((7))))");
        check.due("5 around a number", ending(deep(code().load(7), 5)), "raises 6");
        check.due("3 around an empty one", ending(deep(code().load(Asm.tuple()), 3)), "(((())))");
        check.due("4 around an empty one", ending(deep(code().load(Asm.tuple()), 4)), "raises 6");
    }

    static void values_tuple4Deep_readFromBytes(Check check) {
        check.due("4 as they were read", ending(code().load(Samples.nested(Asm.tuple(), 3))), "(((())))");
        check.due("one more around them", ending(deep(code().load(Samples.nested(Asm.tuple(), 3)), 1)),
                "raises 6");
        check.due("one more around 3", ending(deep(code().load(Samples.nested(Asm.tuple(), 2)), 1)), "(((())))");
    }

    static void values_tuple4Deep_theDeepestOfSeveralCounts(Check check) {
        check.due("first of three", ending(deep(code().load(7), 4).load(1).load(2).op(Asm.TUPLE, 3)), "raises 6");
        check.due("last of three", ending(deep(code().load(1).load(2).load(7), 4).op(Asm.TUPLE, 3)), "raises 6");
        check.due("3 deep, last of three", ending(deep(code().load(1).load(2).load(7), 3).op(Asm.TUPLE, 3)),
                "(1,2,(((7))))");
    }

    static void values_tuple4Deep_addMakesNoneDeeper(Check check) {
        check.due("4 and 4", ending(deep(code().load(7), 4).op(Asm.DUP).op(Asm.ADD)), "((((7))),(((7))))");
        check.due("4 deep by ADD, one around it", ending(deep(deep(code().load(7), 4).load(Asm.tuple())
                .op(Asm.ADD), 1)), "raises 6");
        check.due("3 deep by ADD, one around it", ending(deep(deep(code().load(7), 3).load(Asm.tuple())
                .op(Asm.ADD), 1)), "((((7))))");
    }

    /** A walker over a tuple, a function and a CODE with tuples are no tuples. */
    static void values_tuple4Deep_othersAreNotDeep(Check check) {
        check.due("a walker", ending(deep(deep(code().load(7), 4).op(Asm.WALK), 4)), "((((walker))))");
        int[] inner = new Asm(0, 0, 1).load(Asm.tuple(Asm.tuple())).op(Asm.RETURN).bytes();
        check.due("a CODE", ending(deep(code().load(inner), 4)), "((((code/0))))");
        check.due("a function", ending(deep(code().load(inner).op(Asm.FUNCTION), 4)), "((((function/0))))");
    }

    // ---- ranges ----

    static void values_rangeBounds_to(Check check) {
        check.due("highest", ending(Samples.range(code(), HIGHEST)), "range(0,2147483647,1)");
        check.due("one more", ending(Samples.range(code(), HIGHEST + 1)), "raises 6");
        check.due("lowest", ending(Samples.range(code(), LOWEST)), "range(0,-2147483648,1)");
        check.due("one less", ending(Samples.range(code(), LOWEST - 1)), "raises 6");
        check.due("highest of two", ending(Samples.range(code(), 5, HIGHEST)), "range(5,2147483647,1)");
        check.due("one more of two", ending(Samples.range(code(), 5, HIGHEST + 1)), "raises 6");
        check.due("one less of three", ending(Samples.range(code(), 5, LOWEST - 1, 1)), "raises 6");
    }

    static void values_rangeBounds_from(Check check) {
        check.due("highest", ending(Samples.range(code(), HIGHEST, 5)), "range(2147483647,5,1)");
        check.due("one more", ending(Samples.range(code(), HIGHEST + 1, 5)), "raises 6");
        check.due("lowest", ending(Samples.range(code(), LOWEST, 5, 2)), "range(-2147483648,5,2)");
        check.due("one less", ending(Samples.range(code(), LOWEST - 1, 5, 2)), "raises 6");
    }

    static void values_rangeBounds_step(Check check) {
        check.due("highest", ending(Samples.range(code(), 1, 2, HIGHEST)), "range(1,2,2147483647)");
        check.due("one more", ending(Samples.range(code(), 1, 2, HIGHEST + 1)), "raises 6");
        check.due("lowest", ending(Samples.range(code(), 1, 2, LOWEST)), "range(1,2,-2147483648)");
        check.due("one less", ending(Samples.range(code(), 1, 2, LOWEST - 1)), "raises 6");
    }

    static void values_rangeBounds_farBeyond(Check check) {
        for (int bits : new int[] {32, 45, 46, 63, 64, 239}) {
            for (BigInteger far : new BigInteger[] {ONE.shiftLeft(bits), ONE.shiftLeft(bits).negate(),
                    ONE.shiftLeft(bits).add(ONE)}) {
                check.due("to " + far, ending(code().get("range").load(Asm.number(far)).op(Asm.CALL, 1)),
                        "raises 6");
            }
        }
    }

    static void values_rangeStep0(Check check) {
        check.due("step -1", ending(Samples.range(code(), 1, 2, -1)), "range(1,2,-1)");
        check.due("step 0", ending(Samples.range(code(), 1, 2, 0)), "raises 3");
        check.due("step 1", ending(Samples.range(code(), 1, 2, 1)), "range(1,2,1)");
        check.due("step FALSE", ending(code().get("range").load(1).load(2).load(Asm.no()).op(Asm.CALL, 3)),
                "raises 3");
        check.due("step TRUE", ending(code().get("range").load(1).load(2).load(Asm.yes()).op(Asm.CALL, 3)),
                "range(1,2,1)");
    }

    /** All that a walk over the top one comes to, as a tuple. */
    private static String walked(long... bounds) {
        Asm code = Samples.range(code(), bounds).load(Asm.tuple()).op(Asm.SET, 0).op(Asm.WALK);
        int loop = code.place();
        return ending(code.op(Asm.NEXT, 12).op(Asm.TUPLE, 1).op(Asm.LOCAL, 0).op(Asm.SWAP).op(Asm.ADD)
                .op(Asm.SET, 0).op(Asm.GO_TO, loop).op(Asm.LOCAL, 0));
    }

    static void values_rangeWalksAsLongAsBelowTo(Check check) {
        check.due("from above to", walked(6, 5, 1), "()");
        check.due("from at to", walked(5, 5, 1), "()");
        check.due("from one below to", walked(4, 5, 1), "(4)");
        check.due("to just reached", walked(1, 7, 3), "(1,4)");
        check.due("to one beyond", walked(1, 8, 3), "(1,4,7)");
        check.due("to one before", walked(1, 6, 3), "(1,4)");
        check.due("to 0", walked(0), "()");
        check.due("to 1", walked(1), "(0)");
        check.due("to -1", walked(-1), "()");
    }

    static void values_rangeWalksAsLongAsAboveTo(Check check) {
        check.due("from below to", walked(4, 5, -1), "()");
        check.due("from at to", walked(5, 5, -1), "()");
        check.due("from one above to", walked(6, 5, -1), "(6)");
        check.due("to just reached", walked(7, 1, -3), "(7,4)");
        check.due("to one beyond", walked(7, 0, -3), "(7,4,1)");
        check.due("to one before", walked(7, 2, -3), "(7,4)");
    }

    static void values_rangeWalksWithoutWrapAround(Check check) {
        check.due("up to the highest", walked(HIGHEST - 2, HIGHEST, 1), "(2147483645,2147483646)");
        check.due("over the highest", walked(HIGHEST - 2, HIGHEST, 2), "(2147483645)");
        check.due("far over the highest", walked(HIGHEST - 1, HIGHEST, HIGHEST), "(2147483646)");
        check.due("down to the lowest", walked(LOWEST + 2, LOWEST, -1), "(-2147483646,-2147483647)");
        check.due("below the lowest", walked(LOWEST + 2, LOWEST, -2), "(-2147483646)");
        check.due("far below the lowest", walked(LOWEST + 1, LOWEST, LOWEST), "(-2147483647)");
        check.due("all the way up", walked(LOWEST, HIGHEST, HIGHEST), "(-2147483648,-1,2147483646)");
        check.due("all the way down", walked(HIGHEST, LOWEST, LOWEST), "(2147483647,-1)");
    }

    // ---- FALSE values ----

    private static void truth(Check check, String what, boolean isTrue, Asm code) {
        int place = code.place();
        check.due(what, ending(code.op(Asm.DUP).op(Asm.NOT).op(Asm.SWAP).op(Asm.GO_IF_TRUE, place + 12)
                .load(0).op(Asm.GO_ON, 2).load(1).op(Asm.TUPLE, 2)), isTrue ? "(FALSE,1)" : "(TRUE,0)");
    }

    static void values_falseNumbers(Check check) {
        truth(check, "-1", true, code().load(-1));
        truth(check, "0", false, code().load(0));
        truth(check, "0 of no digits", false, code().load(Asm.number(BigInteger.ZERO)));
        truth(check, "1", true, code().load(1));
        truth(check, "32768, whose lowest digit is 0", true, code().load(32768));
        truth(check, "2^239", true, code().load(Asm.number(ONE.shiftLeft(239))));
        truth(check, "1 less 1", false, code().load(1).load(1).op(Asm.SUB));
        truth(check, "FALSE", false, code().load(Asm.no()));
        truth(check, "TRUE", true, code().load(Asm.yes()));
        truth(check, "NONE", false, code().load(Asm.none()));
    }

    static void values_falseTuples(Check check) {
        truth(check, "an empty one", false, code().load(Asm.tuple()));
        truth(check, "one with NONE", true, code().load(Asm.tuple(Asm.none())));
        truth(check, "one with an empty one", true, code().load(Asm.tuple(Asm.tuple())));
        truth(check, "TUPLE 0", false, code().op(Asm.TUPLE, 0));
    }

    static void values_falseRanges(Check check) {
        truth(check, "5 to 4", false, Samples.range(code(), 5, 4));
        truth(check, "5 to 5", false, Samples.range(code(), 5, 5));
        truth(check, "5 to 6", true, Samples.range(code(), 5, 6));
        truth(check, "5 to 6 by 9", true, Samples.range(code(), 5, 6, 9));
        truth(check, "5 to 6 by -1", false, Samples.range(code(), 5, 6, -1));
        truth(check, "5 to 5 by -1", false, Samples.range(code(), 5, 5, -1));
        truth(check, "5 to 4 by -1", true, Samples.range(code(), 5, 4, -1));
        truth(check, "lowest to highest", true, Samples.range(code(), LOWEST, HIGHEST));
        truth(check, "highest to lowest", false, Samples.range(code(), HIGHEST, LOWEST));
    }

    static void values_allOthersAreTrue(Check check) {
        truth(check, "a walker over none", true, code().load(Asm.tuple()).op(Asm.WALK));
        truth(check, "a function", true, code().load(Samples.SAME).op(Asm.FUNCTION));
        truth(check, "a CODE", true, code().load(Samples.SAME));
        truth(check, "RANGE", true, code().get("range"));
        truth(check, "KIND 0", true, code().get("typ"));
    }

    // ---- FALSE and TRUE as numbers, and what is equal ----

    static void values_falseAndTrueCountAs0And1(Check check) {
        check.due("TRUE and TRUE", ending(code().load(Asm.yes()).load(Asm.yes()).op(Asm.ADD)), "2");
        check.due("FALSE less TRUE", ending(code().load(Asm.no()).load(Asm.yes()).op(Asm.SUB)), "-1");
        check.due("TRUE by TRUE", ending(code().load(Asm.yes()).load(Asm.yes()).op(Asm.MUL)), "1");
        check.due("5 DIV TRUE", ending(code().load(5).load(Asm.yes()).op(Asm.DIV)), "5");
        check.due("5 DIV FALSE", ending(code().load(5).load(Asm.no()).op(Asm.DIV)), "raises 1");
        check.due("5 MOD FALSE", ending(code().load(5).load(Asm.no()).op(Asm.MOD)), "raises 1");
        check.due("NEG of TRUE", ending(code().load(Asm.yes()).op(Asm.NEG)), "-1");
        check.due("NEG of FALSE", ending(code().load(Asm.no()).op(Asm.NEG)), "0");
        check.due("FALSE < TRUE", ending(code().load(Asm.no()).load(Asm.yes()).op(Asm.COMPARE, 0)), "TRUE");
        check.due("TRUE >= 1", ending(code().load(Asm.yes()).load(1).op(Asm.COMPARE, 5)), "TRUE");
        check.due("the most and TRUE", ending(code().load(Asm.number(MOST)).load(Asm.yes()).op(Asm.ADD)),
                "raises 6");
        check.due("to TRUE", ending(code().get("range").load(Asm.yes()).op(Asm.CALL, 1)), "range(0,1,1)");
    }

    private static void equal(Check check, String what, boolean equal, Asm code) {
        check.due(what, ending(code.op(Asm.COMPARE, 2)), equal ? "TRUE" : "FALSE");
    }

    private static Asm two(int[] first, int[] second) {
        return code().load(first).load(second);
    }

    static void values_equalNumbers(Check check) {
        equal(check, "0 and 0 of no digits", true, two(Asm.number(0), Asm.number(BigInteger.ZERO)));
        equal(check, "5 and -5", false, two(Asm.number(5), Asm.number(-5)));
        equal(check, "the most and the most", true, two(Asm.number(MOST), Asm.number(MOST)));
        equal(check, "the most and one less", false, two(Asm.number(MOST), Asm.number(MOST.subtract(ONE))));
        equal(check, "the most and one less in its highest digit", false,
                two(Asm.number(MOST), Asm.number(MOST.subtract(ONE.shiftLeft(225)))));
        equal(check, "32768 and 1", false, two(Asm.number(32768), Asm.number(1)));
        equal(check, "FALSE and 0", true, two(Asm.no(), Asm.number(0)));
        equal(check, "TRUE and 1", true, two(Asm.yes(), Asm.number(1)));
        equal(check, "TRUE and 2", false, two(Asm.yes(), Asm.number(2)));
        equal(check, "TRUE and -1", false, two(Asm.yes(), Asm.number(-1)));
        equal(check, "NONE and 0", false, two(Asm.none(), Asm.number(0)));
        equal(check, "NONE and FALSE", false, two(Asm.none(), Asm.no()));
        equal(check, "NONE and NONE", true, two(Asm.none(), Asm.none()));
    }

    static void values_equalTuples(Check check) {
        equal(check, "empty ones", true, two(Asm.tuple(), Asm.tuple()));
        equal(check, "11 and 12", false, two(Samples.nones(11), Samples.nones(12)));
        equal(check, "12 and 12", true, two(Samples.nones(12), Samples.nones(12)));
        equal(check, "an empty one and one", false, two(Asm.tuple(), Samples.nones(1)));
        equal(check, "another last one", false, two(Asm.tuple(Asm.none(), Asm.no()),
                Asm.tuple(Asm.none(), Asm.yes())));
        equal(check, "another first one", false, two(Asm.tuple(Asm.no(), Asm.none()),
                Asm.tuple(Asm.yes(), Asm.none())));
        equal(check, "TRUE for 1 in them", true, two(Asm.tuple(Asm.yes()), Asm.tuple(Asm.number(1))));
        equal(check, "a tuple of 0 and 0", false, two(Asm.tuple(Asm.number(0)), Asm.number(0)));
    }

    static void values_equalTuples_4Deep(Check check) {
        equal(check, "the same innermost", true, deep(deep(code().load(7), 4).load(7), 4));
        equal(check, "another innermost", false, deep(deep(code().load(7), 4).load(8), 4));
        equal(check, "3 and 4 deep", false, deep(deep(code().load(7), 4).load(7), 3));
        equal(check, "an empty innermost", true, deep(deep(code().load(Asm.tuple()), 3).load(Asm.tuple()), 3));
    }

    static void values_equalRanges(Check check) {
        equal(check, "the same three", true, Samples.range(Samples.range(code(), 1, 5, 2), 1, 5, 2));
        equal(check, "another from", false, Samples.range(Samples.range(code(), 1, 5, 2), 0, 5, 2));
        equal(check, "another to, the same walk", false, Samples.range(Samples.range(code(), 1, 5, 2), 1, 4, 2));
        equal(check, "another step", false, Samples.range(Samples.range(code(), 1, 2, 2), 1, 2, 1));
        equal(check, "two that walk over none", false, Samples.range(Samples.range(code(), 0), -1));
        equal(check, "a range and an empty tuple", false, Samples.range(code(), 0).load(Asm.tuple()));
    }

    static void values_equalOnlyIfTheVerySame(Check check) {
        equal(check, "a function and itself", true, code().load(Samples.SAME).op(Asm.FUNCTION).op(Asm.DUP));
        equal(check, "two functions of a CODE", false, code().load(Samples.SAME).op(Asm.FUNCTION)
                .op(Asm.CONSTANT, 0).op(Asm.FUNCTION));
        equal(check, "a CODE and itself", true, code().load(Samples.SAME).op(Asm.CONSTANT, 0));
        equal(check, "two CODEs of the same bytes", false, two(Samples.SAME, Samples.SAME));
        equal(check, "a function and its CODE", false, code().load(Samples.SAME).op(Asm.DUP).op(Asm.FUNCTION));
        equal(check, "a walker and itself", true, code().load(Asm.tuple()).op(Asm.WALK).op(Asm.DUP)
                .op(Asm.WALK));
        equal(check, "two walkers over one tuple", false, code().load(Asm.tuple()).op(Asm.WALK)
                .op(Asm.CONSTANT, 0).op(Asm.WALK));
        equal(check, "RANGE and itself", true, code().get("range").get("range"));
        equal(check, "KIND 0 and itself", true, code().get("typ").get("typ"));
        equal(check, "KIND 0 and KIND 1", false, code().get("typ").get("zero"));
        equal(check, "KIND 0 and RANGE", false, code().get("typ").get("range"));
        equal(check, "KIND 0 and 0", false, code().get("typ").load(0));
        equal(check, "tuples of one function", true, code().load(Samples.SAME).op(Asm.FUNCTION).op(Asm.DUP)
                .op(Asm.TUPLE, 1).op(Asm.SWAP).op(Asm.TUPLE, 1));
        equal(check, "tuples of two walkers", false, code().load(Asm.tuple()).op(Asm.WALK).op(Asm.TUPLE, 1)
                .op(Asm.CONSTANT, 0).op(Asm.WALK).op(Asm.TUPLE, 1));
    }

    static void values_equal_aKindThatWasRaised(Check check) {
        equal(check, "KIND 4 by its name", true, new Asm(0, 0, 3).op(Asm.BLOCK, 4).get("nobody")
                .op(Asm.RAISE, 1).get("name"));
    }
}
