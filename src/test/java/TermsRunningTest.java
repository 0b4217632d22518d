/** The boundaries of the term RUNNING: frames, names, blocks, and when each KIND comes. */
public final class TermsRunningTest {
    /** One of each that is no number. */
    private static final int NO_NUMBERS = 9;
    private static final long HIGHEST = Integer.MAX_VALUE;

    public static void main(String[] args) throws ReflectiveOperationException {
        Cases.of(TermsRunningTest.class);
    }

    private static Asm code() {
        return new Asm(0, 2, 10);
    }

    private static String ending(Asm code) {
        return new Host().ending(code.op(Asm.RETURN));
    }

    /** NONE, a tuple, a range, a walker, a function, a CODE, RANGE, KIND 0, KIND 6. */
    private static Asm noNumber(Asm code, int which) {
        switch (which) {
            case 0: return code.load(Asm.none());
            case 1: return code.load(Asm.tuple(Asm.number(1)));
            case 2: return Samples.range(code, 3);
            case 3: return code.load(Asm.tuple(Asm.number(1))).op(Asm.WALK);
            case 4: return code.load(Samples.SAME).op(Asm.FUNCTION);
            case 5: return code.load(Samples.SAME);
            case 6: return code.get("range");
            case 7: return code.get("typ");
            default: return code.get("over");
        }
    }

    // ---- KIND 0 ----

    static void running_kind0_noNumber(Check check) {
        int[][] whats = {{Asm.MUL, 0}, {Asm.MOD, 0}, {Asm.SUB, 0}, {Asm.DIV, 0}, {Asm.ADD, 0}, {Asm.COMPARE, 0},
            {Asm.COMPARE, 1}, {Asm.COMPARE, 4}, {Asm.COMPARE, 5}};
        for (int i = 0; i < NO_NUMBERS; i++) {
            check.due("NEG of " + i, ending(noNumber(code(), i).op(Asm.NEG)), "raises 0");
            for (int[] what : whats) {
                String name = what[0] + " " + what[1];
                check.due(name + " with " + i + " left", ending(noNumber(code(), i).load(1).op(what[0], what[1])),
                        "raises 0");
                check.due(name + " with " + i + " right", ending(noNumber(code().load(1), i).op(what[0], what[1])),
                        "raises 0");
            }
        }
    }

    static void running_kind0_addButForTwoTuples(Check check) {
        check.due("two tuples", ending(code().load(Asm.tuple(Asm.number(1))).load(Asm.tuple(Asm.number(2)))
                .op(Asm.ADD)), "(1,2)");
        check.due("two empty ones", ending(code().load(Asm.tuple()).load(Asm.tuple()).op(Asm.ADD)), "()");
        check.due("a tuple and a range", ending(Samples.range(code().load(Asm.tuple()), 3).op(Asm.ADD)), "raises 0");
        check.due("a range and a tuple", ending(Samples.range(code(), 3).load(Asm.tuple()).op(Asm.ADD)), "raises 0");
        for (int what : new int[] {Asm.MUL, Asm.MOD, Asm.SUB, Asm.DIV}) {
            check.due("two tuples by " + what, ending(code().load(Asm.tuple()).load(Asm.tuple()).op(what)),
                    "raises 0");
        }
        for (int how : new int[] {0, 1, 4, 5}) {
            check.due("two tuples by COMPARE " + how, ending(code().load(Asm.tuple()).load(Asm.tuple())
                    .op(Asm.COMPARE, how)), "raises 0");
        }
    }

    static void running_kind0_item(Check check) {
        for (int i = 0; i < NO_NUMBERS; i++) {
            check.due("item " + i, ending(noNumber(code().load(Asm.tuple(Asm.none())), i).op(Asm.ITEM)), "raises 0");
            String want = i == 1 ? "1" : i == 2 ? "0" : "raises 0";
            check.due("item 0 of " + i, ending(noNumber(code(), i).load(0).op(Asm.ITEM)), want);
        }
        check.due("item 0 of a number", ending(code().load(5).load(0).op(Asm.ITEM)), "raises 0");
        check.due("item 0 of FALSE", ending(code().load(Asm.no()).load(0).op(Asm.ITEM)), "raises 0");
    }

    static void running_kind0_walkNextSpread(Check check) {
        for (int i = 0; i < NO_NUMBERS; i++) {
            check.due("WALK of " + i, ending(noNumber(code(), i).op(Asm.WALK)),
                    i >= 1 && i <= 3 ? "walker" : "raises 0");
            Asm next = noNumber(code(), i).op(Asm.NEXT, 2).op(Asm.RETURN).load(7);
            check.due("NEXT of " + i, ending(next), i == 3 ? "1" : "raises 0");
            check.due("SPREAD of " + i, ending(noNumber(code(), i).op(Asm.SPREAD, 1)), i == 1 ? "1" : "raises 0");
        }
        check.due("WALK of a number", ending(code().load(5).op(Asm.WALK)), "raises 0");
        check.due("WALK of TRUE", ending(code().load(Asm.yes()).op(Asm.WALK)), "raises 0");
        check.due("NEXT of a number", ending(code().load(5).op(Asm.NEXT, 2).op(Asm.RETURN).load(7)), "raises 0");
        check.due("SPREAD of a number", ending(code().load(5).op(Asm.SPREAD, 1)), "raises 0");
    }

    static void running_kind0_compare10AndRaise(Check check) {
        for (int i = 0; i < NO_NUMBERS; i++) {
            boolean kind = i >= 7;
            check.due("COMPARE 10 with " + i + " left", ending(noNumber(code(), i).get("over")
                    .op(Asm.COMPARE, 10)), !kind ? "raises 0" : i == 8 ? "TRUE" : "FALSE");
            check.due("COMPARE 10 with " + i + " right", ending(noNumber(code().get("over"), i)
                    .op(Asm.COMPARE, 10)), !kind ? "raises 0" : i == 8 ? "TRUE" : "FALSE");
            check.due("RAISE of " + i, new Host().ending(noNumber(code(), i).op(Asm.RAISE, 1)),
                    i == 8 ? "raises 6" : "raises 0");
        }
        check.due("COMPARE 10 of equal numbers", ending(code().load(5).load(5).op(Asm.COMPARE, 10)), "raises 0");
        check.due("RAISE of a number", new Host().ending(code().load(6).op(Asm.RAISE, 1)), "raises 0");
    }

    static void running_kind0_callAndFunction(Check check) {
        for (int i = 0; i < NO_NUMBERS; i++) {
            check.due("CALL of " + i + " with one", ending(noNumber(code(), i).load(5).op(Asm.CALL, 1)),
                    i == 4 ? "5" : i == 6 ? "range(0,5,1)" : "raises 0");
            check.due("FUNCTION of " + i, ending(noNumber(code(), i).op(Asm.FUNCTION)),
                    i == 5 ? "function/1" : "raises 0");
        }
        check.due("CALL of a number", ending(code().load(5).op(Asm.CALL, 0)), "raises 0");
        check.due("FUNCTION of a number", ending(code().load(5).op(Asm.FUNCTION)), "raises 0");
    }

    static void running_kind0_rangeWith0To4(Check check) {
        check.due("with none", ending(Samples.range(code())), "raises 0");
        check.due("with one", ending(Samples.range(code(), 5)), "range(0,5,1)");
        check.due("with two", ending(Samples.range(code(), 5, 6)), "range(5,6,1)");
        check.due("with three", ending(Samples.range(code(), 5, 6, 7)), "range(5,6,7)");
        check.due("with four", ending(Samples.range(code(), 5, 6, 7, 8)), "raises 0");
    }

    static void running_kind0_rangeOfNoNumbers(Check check) {
        for (int i = 0; i < NO_NUMBERS; i++) {
            check.due("to " + i, ending(noNumber(code().get("range"), i).op(Asm.CALL, 1)), "raises 0");
            check.due("from " + i, ending(noNumber(code().get("range"), i).load(5).op(Asm.CALL, 2)), "raises 0");
            check.due("step " + i, ending(noNumber(code().get("range").load(1).load(2), i).op(Asm.CALL, 3)),
                    "raises 0");
        }
    }

    static void running_equalAndNotRaiseNothing(Check check) {
        for (int i = 0; i < NO_NUMBERS; i++) {
            check.due("5 equal " + i, ending(noNumber(code().load(5), i).op(Asm.COMPARE, 2)), "FALSE");
            check.due("5 not " + i, ending(noNumber(code().load(5), i).op(Asm.COMPARE, 3)), "TRUE");
            check.due("NOT of " + i, ending(noNumber(code(), i).op(Asm.NOT)), i == 0 ? "TRUE" : "FALSE");
        }
    }

    // ---- KINDs 1 to 6 ----

    static void running_kind1_byMinus1_0_1(Check check) {
        String[] div = {"-7", "raises 1", "7"};
        String[] mod = {"0", "raises 1", "0"};
        for (int right = -1; right <= 1; right++) {
            check.due("7 DIV " + right, ending(code().load(7).load(right).op(Asm.DIV)), div[right + 1]);
            check.due("7 MOD " + right, ending(code().load(7).load(right).op(Asm.MOD)), mod[right + 1]);
        }
        check.due("0 DIV 0", ending(code().load(0).load(0).op(Asm.DIV)), "raises 1");
        check.due("0 MOD 0", ending(code().load(0).load(0).op(Asm.MOD)), "raises 1");
        check.due("0 DIV 1", ending(code().load(0).load(1).op(Asm.DIV)), "0");
        check.due("the most DIV 0", ending(code().load(Asm.number(Samples.MOST)).load(0).op(Asm.DIV)), "raises 1");
    }

    static void running_kind4_global(Check check) {
        check.due("nobody has stored it", ending(code().get("a")), "raises 4");
        check.due("it is stored", ending(code().load(5).put("a").get("a")), "5");
        check.due("another one is stored", ending(code().load(5).put("a").get("b")), "raises 4");
        check.due("a longer one is stored", ending(code().load(5).put("aa").get("a")), "raises 4");
        check.due("a shorter one is stored", ending(code().load(5).put("a").get("aa")), "raises 4");
        check.due("NONE is stored", ending(code().load(Asm.none()).put("a").get("a")), "NONE");
    }

    static void running_kind4_local(Check check) {
        check.due("unset", ending(code().op(Asm.LOCAL, 1)), "raises 4");
        check.due("set", ending(code().load(5).op(Asm.SET, 1).op(Asm.LOCAL, 1)), "5");
        check.due("another one set", ending(code().load(5).op(Asm.SET, 0).op(Asm.LOCAL, 1)), "raises 4");
        check.due("NONE is set", ending(code().load(Asm.none()).op(Asm.SET, 1).op(Asm.LOCAL, 1)), "NONE");
        check.due("an argument of the first frame", ending(new Asm(1, 1, 1).op(Asm.LOCAL, 0)), "raises 4");
        int[] second = new Asm(1, 2, 1).op(Asm.LOCAL, 1).op(Asm.RETURN).bytes();
        check.due("right behind the arguments", ending(code().load(second).op(Asm.FUNCTION).load(5)
                .op(Asm.CALL, 1)), "raises 4");
        check.due("the last argument", ending(code().load(Samples.SAME).op(Asm.FUNCTION).load(5)
                .op(Asm.CALL, 1)), "5");
    }

    private static Asm tail() {
        return Samples.untilZero();
    }

    static void running_kind5_with7_8Frames(Check check) {
        Asm calls = tail().get("g").op(Asm.CALL, 0).op(Asm.RETURN);
        int[] g = new Asm(0, 0, 1).load(3).op(Asm.RETURN).bytes();
        for (int n = 4; n <= 7; n++) {
            Host host = new Host();
            host.ending(new Asm(0, 0, 1).load(g).op(Asm.FUNCTION).put("g").load(0).op(Asm.RETURN));
            String want = n + 2 < 8 ? "3" : "raises 5";
            check.due("CALL with " + (n + 2) + " frames", host.ending(Samples.recursion(n, calls)), want);
        }
    }

    static void running_kind5_framesInAll(Check check) {
        Asm returns = tail().op(Asm.LOCAL, 0).op(Asm.RETURN);
        check.due("8 frames", new Host().ending(Samples.recursion(6, returns)), "0");
        check.due("9 frames", new Host().ending(Samples.recursion(7, returns)), "raises 5");
    }

    /** A block of the eighth frame itself takes it, and it goes on there. */
    static void running_kind5_inABlockOfTheEighthFrame(Check check) {
        Asm caught = tail().op(Asm.BLOCK, 8).get("f").load(0).op(Asm.CALL, 1).op(Asm.RAISE, 1).op(Asm.RETURN);
        check.due("in the 7th frame", new Host().ending(Samples.recursion(5, caught)), "KIND5");
        check.due("in the 8th frame", new Host().ending(Samples.recursion(6, caught)), "KIND5");
    }

    /** RANGE needs no frame, so there is none too many. */
    static void running_kind5_notOfRange(Check check) {
        Asm range = tail().get("range").op(Asm.CONSTANT, 0).op(Asm.CALL, 1).op(Asm.RETURN);
        check.due("RANGE in the 7th frame", new Host().ending(Samples.recursion(5, range)), "range(0,1,1)");
        check.due("RANGE in the 8th frame", new Host().ending(Samples.recursion(6, range)), "range(0,1,1)");
    }

    private static String nameOf(int i) {
        return "n" + (char) ('a' + i);
    }

    private static Host withNames(int count) {
        Host host = new Host();
        for (int i = 0; i < count; i++) {
            host.ending(new Asm(0, 0, 1).load(i).put(nameOf(i)).load(0).op(Asm.RETURN));
        }
        return host;
    }

    private static Asm storing(String name) {
        return new Asm(0, 0, 1).load(99).put(name).get(name).op(Asm.RETURN);
    }

    static void running_kind6_namesStored(Check check) {
        Host host = withNames(15);
        check.due("the 16th", host.ending(storing("last")), "99");
        check.due("the 17th", host.ending(storing("more")), "raises 6");
        check.due("it is not stored", host.global("more"), "nothing");
        check.due("names", host.x.about(7), 16);
        check.due("the first one anew", host.ending(storing(nameOf(0))), "99");
        check.due("the 16th anew", host.ending(storing("last")), "99");
        check.due("names", host.x.about(7), 16);
    }

    static void running_kind6_namesStored_builtOnesCount(Check check) {
        Host host = withNames(15);
        check.due("range as the 16th", host.ending(storing("range")), "99");
        check.due("typ as the 17th", host.ending(storing("typ")), "raises 6");
        check.due("typ is the built one still", host.ending(new Asm(0, 0, 1).get("typ").op(Asm.RETURN)), "KIND0");
    }

    // ---- which of several comes ----

    static void running_severalKinds_0BeforeTheOthers(Check check) {
        check.due("NONE DIV 0", ending(code().load(Asm.none()).load(0).op(Asm.DIV)), "raises 0");
        check.due("a tuple MOD FALSE", ending(code().load(Asm.tuple()).load(Asm.no()).op(Asm.MOD)), "raises 0");
        check.due("item 9 of a number", ending(code().load(5).load(9).op(Asm.ITEM)), "raises 0");
        check.due("RANGE of NONE, with step 0", ending(code().get("range").load(Asm.none()).load(1).load(0)
                .op(Asm.CALL, 3)), "raises 0");
        check.due("four for RANGE, with step 0", ending(Samples.range(code(), 1, 2, 0, 0)), "raises 0");
    }

    static void running_severalKinds_0Before5(Check check) {
        Asm tooFew = tail().get("f").op(Asm.CALL, 0).op(Asm.RETURN);
        check.due("too few in the 8th frame", new Host().ending(Samples.recursion(6, tooFew)), "raises 0");
        Asm nothing = tail().op(Asm.LOCAL, 0).op(Asm.CALL, 0).op(Asm.RETURN);
        check.due("nothing to be called in the 8th frame", new Host().ending(Samples.recursion(6, nothing)),
                "raises 0");
        Asm noRange = tail().get("range").op(Asm.CALL, 0).op(Asm.RETURN);
        check.due("none for RANGE in the 8th frame", new Host().ending(Samples.recursion(6, noRange)), "raises 0");
    }

    static void running_severalKinds_0Before6(Check check) {
        check.due("too far, then NONE", ending(code().get("range").load(HIGHEST + 1).load(Asm.none())
                .op(Asm.CALL, 2)), "raises 0");
        check.due("NONE, then too far", ending(code().get("range").load(Asm.none()).load(HIGHEST + 1)
                .op(Asm.CALL, 2)), "raises 0");
        check.due("four, too far", ending(Samples.range(code(), 1, 2, 3, HIGHEST + 1)), "raises 0");
        check.due("a full tuple and NONE", ending(code().load(Samples.nones(12)).load(Asm.none()).op(Asm.ADD)),
                "raises 0");
        check.due("the most and NONE", ending(code().load(Asm.number(Samples.MOST)).load(Asm.none())
                .op(Asm.MUL)), "raises 0");
    }

    static void running_severalKinds_6Before3(Check check) {
        check.due("from too far, step 0", ending(Samples.range(code(), HIGHEST + 1, 2, 0)), "raises 6");
        check.due("to too far, step 0", ending(Samples.range(code(), 1, -HIGHEST - 2, 0)), "raises 6");
        check.due("both just there, step 0", ending(Samples.range(code(), HIGHEST, -HIGHEST - 1, 0)), "raises 3");
    }

    // ---- blocks ----

    static void running_exception_toTheLatestBlock(Check check) {
        Host host = Host.of(new Asm(0, 0, 5).load(1).op(Asm.BLOCK, 18).load(2).op(Asm.BLOCK, 12).load(3).load(4)
                .get("nobody").op(Asm.UNBLOCK).op(Asm.UNBLOCK).op(Asm.GO_TO, 18).op(Asm.RAISE, 1)
                .op(Asm.TUPLE, 2).op(Asm.RETURN));
        host.run(6);
        check.due("before", host.about(), "1 1 12 4 2 -1 6 0");
        host.run(1);
        check.due("in the inner handler", host.about(), "1 1 20 3 1 -1 7 0");
        check.due("its stack", host.stack(0) + " " + host.stack(1) + " " + host.stack(2), "KIND4 2 1");
        host.run(1);
        check.due("in the outer handler", host.about(), "1 1 22 2 0 -1 8 0");
        check.due("its stack", host.stack(0) + " " + host.stack(1), "KIND4 1");
        host.run(2);
        check.due("its end", host.result(), "(1,KIND4)");
    }

    static void running_exception_throughAllFourBlocks(Check check) {
        Asm code = new Asm(0, 0, 2).op(Asm.BLOCK, 16).op(Asm.BLOCK, 12).op(Asm.BLOCK, 8).op(Asm.BLOCK, 4)
                .get("nobody").op(Asm.RAISE, 1).op(Asm.RAISE, 1).op(Asm.RAISE, 1).op(Asm.RAISE, 1)
                .op(Asm.RAISE, 1);
        Host host = Host.of(code);
        host.run(5);
        for (int blocks = 3; blocks >= 0; blocks--) {
            check.due("blocks", host.x.about(4), blocks);
            check.due("place", host.x.about(2), 18 - 2 * blocks);
            host.run(1);
        }
        check.due("without one it ends", host.about(), "3 0 0 0 0 4 9 0");
    }

    static void running_exception_theBlockIsGone(Check check) {
        check.due("behind UNBLOCK", ending(new Asm(0, 0, 2).op(Asm.BLOCK, 6).op(Asm.UNBLOCK).get("nobody")
                .op(Asm.RETURN)), "raises 4");
        check.due("in its handler", new Host().ending(new Asm(0, 0, 2).op(Asm.BLOCK, 4).get("nobody")
                .op(Asm.RAISE, 1).get("zero").op(Asm.RAISE, 1)), "raises 1");
    }

    static void running_exception_inTheFrameThatCalled(Check check) {
        int[] failing = new Asm(0, 0, 2).load(1).get("nobody").op(Asm.RETURN).bytes();
        Host host = Host.of(new Asm(0, 0, 4).load(7).op(Asm.BLOCK, 10).load(8).load(failing).op(Asm.FUNCTION)
                .op(Asm.CALL, 0).op(Asm.RAISE, 1).op(Asm.TUPLE, 2).op(Asm.RETURN));
        host.run(7);
        check.due("in the second frame", host.about(), "1 2 2 1 0 -1 7 0");
        host.run(1);
        check.due("in the first one's handler", host.about(), "1 1 14 2 0 -1 8 0");
        host.run(2);
        check.due("its end", host.result(), "(7,KIND4)");
    }

    static void running_exception_throughEightFrames(Check check) {
        Asm failing = tail().get("nobody").op(Asm.RETURN);
        check.due("without a block", new Host().ending(Samples.recursion(6, failing)), "raises 4");
        Asm outer = new Asm(0, 0, 3).load(failing.bytes()).op(Asm.FUNCTION).put("f").op(Asm.BLOCK, 8).get("f")
                .load(6).op(Asm.CALL, 1).op(Asm.RAISE, 1).op(Asm.RETURN);
        Host host = new Host();
        check.due("to a block of the first one", host.ending(outer), "KIND4");
        host.x.again();
        host.run(3 + 4 + 6 * 7 + 2);
        check.due("in the eighth frame", host.x.about(1), 8);
        host.run(1);
        check.due("in the first frame", host.about(), "1 1 16 1 0 -1 52 1");
    }

    static void running_return(Check check) {
        Host host = Host.of(new Asm(0, 0, 3).load(9).load(Samples.SAME).op(Asm.FUNCTION).load(7).op(Asm.CALL, 1)
                .op(Asm.RETURN));
        host.run(6);
        check.due("in the second frame", host.about(), "1 2 2 1 0 -1 6 0");
        host.run(1);
        check.due("in the first frame", host.about(), "1 1 10 2 0 -1 7 0");
        host.run(1);
        check.due("its end", host.about(), "2 0 0 0 0 -1 8 0");
        check.due("its value", host.result(), "7");
    }

    // ---- names ----

    static void running_builtNames_asLongAsNothingIsStored(Check check) {
        String[] names = {"range", "typ", "zero", "index", "value", "name", "deep", "over"};
        for (int i = 0; i < names.length; i++) {
            Host host = new Host();
            String built = i == 0 ? "RANGE" : "KIND" + (i - 1);
            check.due(names[i], host.ending(new Asm(0, 0, 1).get(names[i]).op(Asm.RETURN)), built);
            check.due(names[i] + " when it is stored", host.ending(storing(names[i])), "99");
            check.due(names[i] + " from then on", host.ending(new Asm(0, 0, 1).get(names[i]).op(Asm.RETURN)), "99");
            check.due("its row", host.global(names[i]), "99");
        }
    }

    static void running_builtNames_besideThem(Check check) {
        for (String name : new String[] {"rang", "ranges", "ange", "ty", "type", "zer", "zeros", "indexe", "values",
            "nam", "names", "dee", "deeps", "ove", "overs", "none", "x"}) {
            check.due(name, ending(code().get(name)), "raises 4");
        }
    }

    /** What an instruction raises does not look at the names. */
    static void running_builtNames_storedKindsAreRaisedStill(Check check) {
        Host host = new Host();
        host.ending(storing("name"));
        check.due("KIND 4", host.ending(Samples.raises()), "raises 4");
        check.due("KIND 4 in a block", host.ending(new Asm(0, 0, 1).op(Asm.BLOCK, 4).get("nobody")
                .op(Asm.RAISE, 1).op(Asm.RETURN)), "KIND4");
    }

    static void running_names_ofAllFramesAndRuns(Check check) {
        int[] storing = new Asm(0, 0, 1).load(3).put("a").get("a").op(Asm.RETURN).bytes();
        Host host = new Host();
        check.due("from frame to frame", host.ending(code().load(storing).op(Asm.FUNCTION).op(Asm.CALL, 0)
                .get("a").op(Asm.TUPLE, 2).op(Asm.RETURN)), "(3,3)");
        check.due("from run to run", host.ending(new Asm(0, 0, 1).get("a").op(Asm.RETURN)), "3");
    }

    /** A function outlives the CODE that it was made in. */
    static void running_names_functionsFromRunToRun(Check check) {
        Host host = new Host();
        host.ending(new Asm(0, 0, 1).load(Samples.SAME).op(Asm.FUNCTION).put("f").load(0).op(Asm.RETURN));
        check.due("called by another CODE", host.ending(new Asm(0, 0, 2).get("f").load(8).op(Asm.CALL, 1)
                .op(Asm.RETURN)), "8");
    }

    static void running_unsetLocals_ofAFrameThatIsUsedAnew(Check check) {
        int[] setting = new Asm(0, 2, 1).load(3).op(Asm.SET, 1).op(Asm.LOCAL, 1).op(Asm.RETURN).bytes();
        int[] asking = new Asm(0, 2, 1).op(Asm.LOCAL, 1).op(Asm.RETURN).bytes();
        check.due("set in the call before", ending(code().load(setting).op(Asm.FUNCTION).op(Asm.CALL, 0)
                .load(asking).op(Asm.FUNCTION).op(Asm.CALL, 0)), "raises 4");
    }
}
