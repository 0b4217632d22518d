import java.math.BigInteger;

/** The boundaries of the term INSTRUCTIONS: the least and the most that each of them works on. */
public final class TermsInstructionsTest {
    public static void main(String[] args) throws ReflectiveOperationException {
        Cases.of(TermsInstructionsTest.class);
    }

    private static Asm code() {
        return new Asm(0, 8, 10);
    }

    private static String ending(Asm code) {
        return new Host().ending(code.op(Asm.RETURN));
    }

    private static int[] numbers(int count) {
        int[][] objects = new int[count][];
        for (int i = 0; i < count; i++) {
            objects[i] = Asm.number(i);
        }
        return Asm.tuple(objects);
    }

    static void instructions_extended_0And1And255(Check check) {
        check.due("0 ahead of CONSTANT", ending(code().op(Asm.EXTENDED, 0).load(5)), "5");
        check.due("1 ahead of CONSTANT 0: it is 256", ending(code().op(Asm.EXTENDED, 1).load(5)),
                "IllegalStateException 0");
        check.due("255 ahead of CONSTANT 0", ending(code().op(Asm.EXTENDED, 255).load(5)),
                "IllegalStateException 0");
        check.due("255 where a means nothing", ending(code().load(5).op(Asm.EXTENDED, 255).op(Asm.NEG, 255)),
                "-5");
        check.due("1 ahead of TUPLE 0: it is 256", ending(code().op(Asm.EXTENDED, 1).op(Asm.TUPLE, 0)),
                "IllegalStateException 0");
        check.due("1 ahead of GO ON 0: it is 256", ending(code().op(Asm.EXTENDED, 1).op(Asm.GO_ON, 0).load(5)),
                "IllegalStateException 0");
    }

    static void instructions_extended_oneAtMost(Check check) {
        check.due("one", ending(code().op(Asm.EXTENDED, 0).load(5)), "5");
        check.due("two", ending(code().op(Asm.EXTENDED, 0).op(Asm.EXTENDED, 0).load(5)),
                "IllegalStateException 0");
        check.due("one, and one ahead of the next", ending(code().op(Asm.EXTENDED, 0).load(5)
                .op(Asm.EXTENDED, 0).load(6).op(Asm.TUPLE, 2)), "(5,6)");
    }

    /** What is behind the next one is counted from behind both. */
    static void instructions_extended_aheadOfEveryPlace(Check check) {
        check.due("GO ON", ending(code().op(Asm.EXTENDED).op(Asm.GO_ON, 2).op(0).load(5)), "5");
        check.due("GO TO", ending(code().op(Asm.EXTENDED).op(Asm.GO_TO, 6).op(0).load(5)), "5");
        check.due("GO IF TRUE", ending(code().load(1).op(Asm.EXTENDED).op(Asm.GO_IF_TRUE, 8).op(Asm.GO_ON, 0)
                .load(5)), "5");
        check.due("NEXT at its end", ending(code().load(Asm.tuple()).op(Asm.WALK).op(Asm.EXTENDED)
                .op(Asm.NEXT, 2).op(Asm.RETURN).load(5)), "5");
        check.due("BLOCK", ending(code().op(Asm.EXTENDED).op(Asm.BLOCK, 4).get("nobody").op(Asm.RAISE, 1)),
                "KIND4");
        check.due("what raises", ending(code().op(Asm.BLOCK, 6).op(Asm.EXTENDED).get("nobody")
                .op(Asm.RAISE, 1)), "KIND4");
    }

    static void instructions_swap_rot_dup_pop(Check check) {
        check.due("SWAP of two", ending(code().load(1).load(2).op(Asm.SWAP).op(Asm.TUPLE, 2)), "(2,1)");
        check.due("SWAP above one", ending(code().load(9).load(1).load(2).op(Asm.SWAP).op(Asm.TUPLE, 3)),
                "(9,2,1)");
        check.due("ROT of three", ending(code().load(1).load(2).load(3).op(Asm.ROT).op(Asm.TUPLE, 3)), "(3,1,2)");
        check.due("ROT above one", ending(code().load(9).load(1).load(2).load(3).op(Asm.ROT).op(Asm.TUPLE, 4)),
                "(9,3,1,2)");
        check.due("DUP of one", ending(code().load(1).op(Asm.DUP).op(Asm.TUPLE, 2)), "(1,1)");
        check.due("DUP above one", ending(code().load(9).load(1).op(Asm.DUP).op(Asm.TUPLE, 3)), "(9,1,1)");
        check.due("POP above one", ending(code().load(9).load(1).op(Asm.POP)), "9");
    }

    /** The one below what they take stays, and nothing else is there. */
    static void instructions_takeJustWhatTheyTake(Check check) {
        int[] tuple = Asm.tuple(Asm.number(5));
        takes(check, "NEG", "-2", code().load(77).load(2).op(Asm.NEG));
        takes(check, "NOT", "FALSE", code().load(77).load(2).op(Asm.NOT));
        takes(check, "WALK", "walker", code().load(77).load(tuple).op(Asm.WALK));
        takes(check, "SPREAD", "5", code().load(77).load(tuple).op(Asm.SPREAD, 1));
        takes(check, "FUNCTION", "function/1", code().load(77).load(Samples.SAME).op(Asm.FUNCTION));
        takes(check, "ITEM", "5", code().load(77).load(tuple).load(0).op(Asm.ITEM));
        takes(check, "ADD of tuples", "(5,5)", code().load(77).load(tuple).load(tuple).op(Asm.ADD));
        takes(check, "CALL of RANGE", "range(0,3,1)", Samples.range(code().load(77), 3));
        takes(check, "CALL", "3", code().load(77).load(Samples.SAME).op(Asm.FUNCTION).load(3).op(Asm.CALL, 1));
        takes(check, "STORE", "2", code().load(77).load(2).load(3).put("x"));
        takes(check, "SET", "2", code().load(77).load(2).load(3).op(Asm.SET, 0));
        String[] results = {"6", "2", "5", "-1", "0"};
        int[] whats = {Asm.MUL, Asm.MOD, Asm.ADD, Asm.SUB, Asm.DIV};
        for (int i = 0; i < whats.length; i++) {
            takes(check, "" + whats[i], results[i], code().load(77).load(2).load(3).op(whats[i]));
        }
        for (int how = 0; how < 6; how++) {
            takes(check, "COMPARE " + how, how < 2 || how == 3 ? "TRUE" : "FALSE",
                    code().load(77).load(2).load(3).op(Asm.COMPARE, how));
        }
    }

    private static void takes(Check check, String what, String top, Asm code) {
        int end = code.place();
        Host host = Host.of(code.op(Asm.GO_TO, end));
        for (int i = 0; i < 50 && (host.x.about(1) != 1 || host.x.about(2) != end); i++) {
            host.run(1);
        }
        check.due(what, host.x.about(3) + " " + host.stack(0) + " " + host.stack(1), "2 " + top + " 77");
    }

    /** Into the tenth place, which is the last that there may be. */
    static void instructions_dup_intoTheFullStack(Check check) {
        Asm code = code();
        for (int i = 1; i <= 9; i++) {
            code.load(i);
        }
        check.due("ten of them", ending(code.op(Asm.DUP).op(Asm.TUPLE, 10)), "(1,2,3,4,5,6,7,8,9,9)");
    }

    static void instructions_tuple_0_1_10(Check check) {
        check.due("TUPLE 0", ending(code().op(Asm.TUPLE, 0)), "()");
        check.due("TUPLE 0 above one", ending(code().load(9).op(Asm.TUPLE, 0).op(Asm.TUPLE, 2)), "(9,())");
        check.due("TUPLE 1", ending(code().load(1).op(Asm.TUPLE, 1)), "(1)");
        Asm ten = code();
        for (int i = 0; i < 10; i++) {
            ten.load(i);
        }
        check.due("TUPLE 10, the top one last", ending(ten.op(Asm.TUPLE, 10)), "(0,1,2,3,4,5,6,7,8,9)");
    }

    static void instructions_spread_0_1_10(Check check) {
        check.due("SPREAD 0", ending(code().load(9).load(Asm.tuple()).op(Asm.SPREAD, 0)), "9");
        check.due("SPREAD 1", ending(code().load(numbers(1)).op(Asm.SPREAD, 1)), "0");
        check.due("SPREAD 10, the first on top", ending(code().load(numbers(10)).op(Asm.SPREAD, 10)
                .op(Asm.TUPLE, 10)), "(9,8,7,6,5,4,3,2,1,0)");
    }

    static void instructions_spread_oneMoreOrLess(Check check) {
        for (int a : new int[] {0, 1, 2, 9, 10}) {
            for (int size = Math.max(a - 1, 0); size <= a + 1; size++) {
                String want = size == a ? "5" : "raises 3";
                Asm code = new Asm(0, 0, 10).load(numbers(size)).op(Asm.SPREAD, a);
                for (int i = 0; i < a; i++) {
                    code.op(Asm.POP);
                }
                check.due("SPREAD " + a + " of " + size, ending(code.load(5)), want);
            }
        }
        check.due("SPREAD 10 of 12", ending(code().load(numbers(12)).op(Asm.SPREAD, 10)), "raises 3");
    }

    static void instructions_item_ofATuple(Check check) {
        for (int size : new int[] {0, 1, 2, 12}) {
            for (int i : new int[] {-size - 1, -size, -1, 0, size - 1, size}) {
                String want = i >= -size && i < size ? "" + (i < 0 ? i + size : i) : "raises 2";
                check.due("item " + i + " of " + size, ending(code().load(numbers(size)).load(i).op(Asm.ITEM)),
                        want);
            }
        }
    }

    static void instructions_item_ofARange(Check check) {
        for (int size : new int[] {0, 1, 2, 12}) {
            for (int i : new int[] {-size - 1, -size, -1, 0, size - 1, size}) {
                String want = i >= -size && i < size ? "" + (100 - 3 * (i < 0 ? i + size : i)) : "raises 2";
                check.due("item " + i + " of " + size, ending(Samples.range(code(), 100, 100 - 3 * size, -3)
                        .load(i).op(Asm.ITEM)), want);
            }
        }
    }

    /** It has 4294967295, more than an int can count. */
    static void instructions_item_ofTheLongestRange(Check check) {
        long size = 4294967295L;
        for (long i : new long[] {-size - 1, -size, -size + 1, -1, 0, 1, size - 1, size, size + 1}) {
            String want = i >= -size && i < size ? "" + (Integer.MIN_VALUE + (i < 0 ? i + size : i)) : "raises 2";
            check.due("item " + i + " upwards", ending(Samples.range(code(), Integer.MIN_VALUE,
                    Integer.MAX_VALUE).load(i).op(Asm.ITEM)), want);
            String down = i >= -size && i < size ? "" + (Integer.MAX_VALUE - (i < 0 ? i + size : i)) : "raises 2";
            check.due("item " + i + " downwards", ending(Samples.range(code(), Integer.MAX_VALUE,
                    Integer.MIN_VALUE, -1).load(i).op(Asm.ITEM)), down);
        }
    }

    /** An index that is not cut to the bits of an int or a long. */
    static void instructions_item_farAway(Check check) {
        for (int bits : new int[] {31, 32, 33, 45, 46, 50, 60, 63, 64, 65, 239}) {
            for (int more : new int[] {-1, 0, 1}) {
                BigInteger far = BigInteger.ONE.shiftLeft(bits).add(BigInteger.valueOf(more));
                check.due("item " + far, ending(code().load(numbers(12)).load(Asm.number(far)).op(Asm.ITEM)),
                        "raises 2");
                check.due("item -" + far, ending(code().load(numbers(12)).load(Asm.number(far.negate()))
                        .op(Asm.ITEM)), "raises 2");
            }
        }
    }

    static void instructions_item_falseAndTrue(Check check) {
        check.due("item FALSE", ending(code().load(numbers(2)).load(Asm.no()).op(Asm.ITEM)), "0");
        check.due("item TRUE", ending(code().load(numbers(2)).load(Asm.yes()).op(Asm.ITEM)), "1");
        check.due("item TRUE of one", ending(code().load(numbers(1)).load(Asm.yes()).op(Asm.ITEM)), "raises 2");
        check.due("item FALSE of none", ending(code().load(numbers(0)).load(Asm.no()).op(Asm.ITEM)), "raises 2");
    }

    /** The loop's end gives what was walked over, as a tuple. */
    private static Asm collected(Asm code) {
        code.load(Asm.tuple()).op(Asm.SET, 0);
        int loop = code.place();
        return code.op(Asm.NEXT, 12).op(Asm.TUPLE, 1).op(Asm.LOCAL, 0).op(Asm.SWAP).op(Asm.ADD)
                .op(Asm.SET, 0).op(Asm.GO_TO, loop).op(Asm.LOCAL, 0);
    }

    static void instructions_next_overNone_one_twelve(Check check) {
        check.due("over none", ending(collected(code().load(numbers(0)).op(Asm.WALK))), "()");
        check.due("over one", ending(collected(code().load(numbers(1)).op(Asm.WALK))), "(0)");
        check.due("over twelve", ending(collected(code().load(numbers(12)).op(Asm.WALK))),
                "(0,1,2,3,4,5,6,7,8,9,10,11)");
    }

    static void instructions_next_theWalkerStaysAndGoes(Check check) {
        Host host = Host.of(new Asm(0, 0, 3).load(9).load(numbers(1)).op(Asm.WALK).op(Asm.NEXT, 4).op(Asm.POP)
                .op(Asm.GO_TO, 6).op(Asm.RETURN));
        host.run(4);
        check.due("the one on top", host.stack(0), "0");
        check.due("the walker below it", host.stack(1), "walker");
        check.due("behind NEXT", host.about(), "1 1 8 3 0 -1 4 0");
        host.run(3);
        check.due("at its end it goes", host.stack(0), "9");
        check.due("a bytes behind the next one", host.about(), "1 1 12 1 0 -1 7 0");
    }

    /** Both ways would come to the same place, with other heights. */
    static void instructions_next_by0(Check check) {
        check.due("NEXT 0", ending(code().load(1).load(2).load(Asm.tuple()).op(Asm.WALK).op(Asm.NEXT, 0)),
                "IllegalStateException 0");
    }

    static void instructions_walk_aWalkerStaysItself(Check check) {
        check.due("WALK twice", ending(code().load(numbers(2)).op(Asm.WALK).op(Asm.DUP).op(Asm.WALK)
                .op(Asm.COMPARE, 2)), "TRUE");
        int[] next = new Asm(1, 1, 2).op(Asm.LOCAL, 0).op(Asm.WALK).op(Asm.NEXT, 2).op(Asm.RETURN)
                .load(Asm.none()).op(Asm.RETURN).bytes();
        Asm calls = code().load(numbers(2)).op(Asm.WALK).op(Asm.SET, 0).load(next).op(Asm.FUNCTION).op(Asm.SET, 1);
        for (int i = 0; i < 4; i++) {
            calls.op(Asm.LOCAL, 1).op(Asm.LOCAL, 0).op(Asm.CALL, 1);
        }
        check.due("it keeps its place, and its end", ending(calls.op(Asm.TUPLE, 4)), "(0,1,NONE,NONE)");
    }

    static void instructions_call_0And4(Check check) {
        int[] zero = new Asm(0, 0, 1).load(7).op(Asm.RETURN).bytes();
        check.due("CALL 0", ending(code().load(zero).op(Asm.FUNCTION).op(Asm.CALL, 0)), "7");
        int[] four = new Asm(4, 4, 4).op(Asm.LOCAL, 0).op(Asm.LOCAL, 1).op(Asm.LOCAL, 2).op(Asm.LOCAL, 3)
                .op(Asm.TUPLE, 4).op(Asm.RETURN).bytes();
        check.due("CALL 4, the top one last", ending(code().load(9).load(four).op(Asm.FUNCTION).load(1).load(2)
                .load(3).load(4).op(Asm.CALL, 4).op(Asm.TUPLE, 2)), "(9,(1,2,3,4))");
    }

    static void instructions_call_oneMoreOrLess(Check check) {
        for (int arguments = 0; arguments <= 4; arguments++) {
            int[] function = new Asm(arguments, 4, 1).load(7).op(Asm.RETURN).bytes();
            for (int a = 0; a <= 4; a++) {
                Asm code = code().load(function).op(Asm.FUNCTION);
                for (int i = 0; i < a; i++) {
                    code.load(i);
                }
                check.due("CALL " + a + " of " + arguments, ending(code.op(Asm.CALL, a)),
                        a == arguments ? "7" : "raises 0");
            }
        }
    }

    static void instructions_compare_lessEqualMore(Check check) {
        String[][] want = {{"TRUE", "FALSE", "FALSE"}, {"TRUE", "TRUE", "FALSE"}, {"FALSE", "TRUE", "FALSE"},
            {"TRUE", "FALSE", "TRUE"}, {"FALSE", "FALSE", "TRUE"}, {"FALSE", "TRUE", "TRUE"}};
        long[] rights = {0, 5, -5, 32767, 32768, -32768, Integer.MAX_VALUE, Integer.MIN_VALUE, 1L << 45,
            Long.MAX_VALUE, Long.MIN_VALUE};
        for (int how = 0; how < want.length; how++) {
            for (long right : rights) {
                for (int more = -1; more <= 1; more++) {
                    BigInteger left = BigInteger.valueOf(right).add(BigInteger.valueOf(more));
                    check.due(left + " COMPARE " + how + " " + right, ending(code().load(Asm.number(left))
                            .load(right).op(Asm.COMPARE, how)), want[how][more + 1]);
                }
            }
        }
    }

    static void instructions_compare_aroundTheMost(Check check) {
        BigInteger most = Samples.MOST;
        BigInteger less = most.subtract(BigInteger.ONE);
        check.due("one less < the most", ending(code().load(Asm.number(less)).load(Asm.number(most))
                .op(Asm.COMPARE, 0)), "TRUE");
        check.due("the most < itself", ending(code().load(Asm.number(most)).load(Asm.number(most))
                .op(Asm.COMPARE, 0)), "FALSE");
        check.due("the least < one more", ending(code().load(Asm.number(most.negate()))
                .load(Asm.number(less.negate())).op(Asm.COMPARE, 0)), "TRUE");
        check.due("the least < the most", ending(code().load(Asm.number(most.negate()))
                .load(Asm.number(most)).op(Asm.COMPARE, 0)), "TRUE");
        check.due("the most > the least", ending(code().load(Asm.number(most)).load(Asm.number(most.negate()))
                .op(Asm.COMPARE, 4)), "TRUE");
    }

    static void instructions_compare10_everyPairOfKinds(Check check) {
        String[] names = {"typ", "zero", "index", "value", "name", "deep", "over"};
        for (String left : names) {
            for (String right : names) {
                check.due(left + " and " + right, ending(code().get(left).get(right).op(Asm.COMPARE, 10)),
                        left.equals(right) ? "TRUE" : "FALSE");
            }
        }
    }

    static void instructions_divAndMod_cutDownwards(Check check) {
        for (long right : new long[] {-32769, -32768, -3, -2, -1, 1, 2, 3, 32768, 32769}) {
            for (long times : new long[] {-2, -1, 0, 1, 2}) {
                for (long more = -1; more <= 1; more++) {
                    long left = right * times + more;
                    check.due(left + " DIV and MOD " + right, ending(code().load(left).load(right).op(Asm.DIV)
                            .op(Asm.CONSTANT, 0).op(Asm.CONSTANT, 1).op(Asm.MOD).op(Asm.TUPLE, 2)),
                            "(" + Math.floorDiv(left, right) + "," + Math.floorMod(left, right) + ")");
                }
            }
        }
    }

    static void instructions_firstAndLastConstant(Check check) {
        Asm code = code();
        for (int i = 0; i < 12; i++) {
            code.constant(Asm.number(i));
        }
        check.due("CONSTANT 0 and 11", ending(code.op(Asm.CONSTANT, 0).op(Asm.CONSTANT, 11).op(Asm.TUPLE, 2)),
                "(0,11)");
    }

    static void instructions_firstAndLastLocal(Check check) {
        check.due("LOCAL 0 and 7", ending(code().load(1).op(Asm.SET, 0).load(2).op(Asm.SET, 7).op(Asm.LOCAL, 0)
                .op(Asm.LOCAL, 7).op(Asm.TUPLE, 2)), "(1,2)");
    }

    static void instructions_firstAndLastName(Check check) {
        Asm code = code();
        for (int i = 0; i < 12; i++) {
            code.name("n" + (char) ('a' + i));
        }
        Host host = new Host();
        check.due("STORE and GLOBAL 0 and 11", host.ending(code.load(1).op(Asm.STORE, 0).load(2)
                .op(Asm.STORE, 11).op(Asm.GLOBAL, 0).op(Asm.GLOBAL, 11).op(Asm.TUPLE, 2).op(Asm.RETURN)), "(1,2)");
        check.due("the first", host.global("na"), "1");
        check.due("the last", host.global("nl"), "2");
    }

    static void instructions_goOn_by0AndToTheLast(Check check) {
        check.due("GO ON 0", ending(code().op(Asm.GO_ON, 0).load(5)), "5");
        Asm far = new Asm(0, 1, 1).load(5).op(Asm.GO_ON, 154);
        while (far.place() < 158) {
            far.op(0);
        }
        check.due("GO ON to place 158", ending(far), "5");
    }

    static void instructions_block_hasWhatIsOnTheStack(Check check) {
        for (int below = 0; below <= 8; below++) {
            Asm code = new Asm(0, 0, 10).constant(Asm.number(7));
            for (int i = 0; i < below; i++) {
                code.op(Asm.CONSTANT, 0);
            }
            code.op(Asm.BLOCK, 6).op(Asm.CONSTANT, 0).get("nobody").op(Asm.RAISE, 1);
            Host host = Host.of(code.op(Asm.RAISE, 1));
            host.run(below + 3);
            check.due("what it has and one more", host.x.about(3), below + 1);
            check.due("the KIND on top", host.stack(0), "KIND4");
        }
    }
}
