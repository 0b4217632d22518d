/** The boundaries of promise 5: n is 1 .. 200, and what is counted. */
public final class Promise05RunTest {
    public static void main(String[] args) throws ReflectiveOperationException {
        Cases.of(Promise05RunTest.class);
    }

    static void promise5_nTooSmall(Check check) {
        Host host = Host.of(Samples.endless());
        for (int n : new int[] {0, -1, -200, Integer.MIN_VALUE}) {
            check.due("run(" + n + ")", host.run(n), "IllegalArgumentException");
        }
        check.due("nothing has run", host.about(), "1 1 0 0 0 -1 0 0");
    }

    static void promise5_nTooLarge(Check check) {
        Host host = Host.of(Samples.endless());
        for (int n : new int[] {201, 202, 256, Integer.MAX_VALUE}) {
            check.due("run(" + n + ")", host.run(n), "IllegalArgumentException");
        }
        check.due("nothing has run", host.about(), "1 1 0 0 0 -1 0 0");
    }

    static void promise5_nWithinBounds(Check check) {
        for (int n : new int[] {1, 2, 199, 200}) {
            Host host = Host.of(Samples.endless());
            check.due("run(" + n + ")", host.run(n), "" + n);
            check.due("so many have run", host.x.about(6), n);
        }
    }

    static void promise5_thereIsNoCode(Check check) {
        Host host = new Host();
        for (int n : new int[] {1, 200}) {
            check.due("run(" + n + ")", host.run(n), "IllegalStateException");
        }
    }

    static void promise5_itHasEnded(Check check) {
        for (Asm code : new Asm[] {Samples.returns(1), Samples.raises()}) {
            Host host = new Host();
            host.ending(code);
            String about = host.about();
            for (int n : new int[] {1, 200}) {
                check.due("run(" + n + ")", host.run(n), "IllegalStateException");
            }
            check.due("its end stays", host.about(), about);
        }
    }

    /** The document names IllegalStateException first. */
    static void promise5_wrongNWhereNothingCanRun(Check check) {
        Host ended = new Host();
        ended.ending(Samples.returns(1));
        for (int n : new int[] {Integer.MIN_VALUE, -1, 0, 201, Integer.MAX_VALUE}) {
            check.due("run(" + n + ") without a CODE", new Host().run(n), "IllegalStateException");
            check.due("run(" + n + ") at its end", ended.run(n), "IllegalStateException");
        }
    }

    static void promise5_refusedReadLeavesWhatRuns(Check check) {
        Host host = new Host();
        host.read(Samples.NO_CODE);
        check.due("run behind a refused read", host.run(1), "IllegalStateException");
        host.read(Samples.endless());
        host.read(Samples.NO_CODE);
        check.due("run of the one before", host.run(1), "1");
    }

    static void promise5_endsBeforeN_justAtN_behindN(Check check) {
        for (int n = 1; n <= 4; n++) {
            Host host = Host.of(new Asm(0, 0, 1).load(5).op(Asm.NEG).op(Asm.RETURN));
            check.due("3 instructions, run(" + n + ")", host.run(n), "" + Math.min(n, 3));
            check.due("its state", host.x.about(0), n < 3 ? 1 : 2);
        }
    }

    static void promise5_endsJustWith200(Check check) {
        for (int before = 198; before <= 200; before++) {
            Host host = Host.of(counting(before));
            check.due(before + " and RETURN, run(200)", host.run(200), "" + Math.min(before + 1, 200));
            check.due("its state", host.x.about(0), before < 200 ? 2 : 1);
        }
    }

    /** So many instructions before RETURN: 2, rounds of 6, the last one, and GO ON for what is left. */
    private static Asm counting(int instructions) {
        int rounds = (instructions - 3) / 6;
        Asm code = new Asm(0, 1, 2).load(rounds).op(Asm.SET, 0);
        for (int i = 2 + 6 * rounds + 1; i < instructions; i++) {
            code.op(Asm.GO_ON, 0);
        }
        int loop = code.place();
        return code.op(Asm.LOCAL, 0).load(1).op(Asm.SUB).op(Asm.DUP).op(Asm.SET, 0)
                .op(Asm.GO_IF_TRUE, loop).op(Asm.LOCAL, 0).op(Asm.RETURN);
    }

    static void promise5_oneThatRaisesCounts_atTheEnd(Check check) {
        Host host = Host.of(Samples.raises());
        check.due("run(200)", host.run(200), "1");
        check.due("its end", host.about(), "3 0 0 0 0 4 1 0");
        Host other = Host.of(Samples.raises());
        check.due("run(1)", other.run(1), "1");
        check.due("its end", other.about(), "3 0 0 0 0 4 1 0");
    }

    static void promise5_oneThatRaisesCounts_inABlock(Check check) {
        Host host = Host.of(new Asm(0, 0, 1).op(Asm.BLOCK, 4).get("nobody").op(Asm.RAISE, 1).op(Asm.RETURN));
        check.due("BLOCK", host.run(1), "1");
        check.due("what raises", host.run(1), "1");
        check.due("in the handler", host.about(), "1 1 6 1 0 -1 2 0");
        check.due("RETURN", host.run(200), "1");
        check.due("in all", host.x.about(6), 3);
    }

    static void promise5_oneThatRaisesCounts_overSeveralFrames(Check check) {
        Host host = Host.of(Samples.recursion(6, Samples.untilZero().get("nobody").op(Asm.RETURN)));
        int before = 6 + 6 * 7 + 2;
        check.due("until it raises", host.run(before), "" + before);
        check.due("frames", host.x.about(1), 8);
        check.due("what raises through 8 frames", host.run(200), "1");
        check.due("its end", host.about(), "3 0 0 0 0 4 51 1");
    }

    static void promise5_extendedIsRunWithTheNext(Check check) {
        Host host = Host.of(new Asm(0, 0, 2).op(Asm.EXTENDED, 0).load(5).op(Asm.EXTENDED, 3).op(Asm.DUP)
                .op(Asm.POP).op(Asm.RETURN));
        check.due("run(1)", host.run(1), "1");
        check.due("behind both", host.about(), "1 1 4 1 0 -1 1 0");
        check.due("run(1)", host.run(1), "1");
        check.due("behind both again", host.about(), "1 1 8 2 0 -1 2 0");
        check.due("to its end", host.run(200), "2");
    }

    static void promise5_callAndReturnCountOneEach(Check check) {
        Host host = Host.of(new Asm(0, 0, 2).load(Samples.SAME).op(Asm.FUNCTION).load(7).op(Asm.CALL, 1)
                .op(Asm.RETURN));
        host.run(3);
        check.due("CALL", host.run(1), "1");
        check.due("in the second frame", host.about(), "1 2 0 0 0 -1 4 0");
        check.due("LOCAL, RETURN", host.run(2), "2");
        check.due("in the first frame", host.about(), "1 1 8 1 0 -1 6 0");
        check.due("RETURN", host.run(2), "1");
        check.due("its end", host.about(), "2 0 0 0 0 -1 7 0");
    }

    /** With the feeds, read() and about(6) they are nearly the 512 calls that an object has. */
    static void promise5_asManyRunsAsAnObjectHasCalls(Check check) {
        Host host = Host.of(Samples.endless());
        for (int i = 0; i < 500; i++) {
            check.due("run(200)", host.run(200), "200");
        }
        check.due("in all", host.x.about(6), 100000);
    }
}
