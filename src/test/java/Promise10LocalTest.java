/** The boundaries of promise 10: i is 0 .. LOCALS - 1, and unset ones. */
public final class Promise10LocalTest {
    public static void main(String[] args) throws ReflectiveOperationException {
        Cases.of(Promise10LocalTest.class);
    }

    /** All of its locals are set, to 100 and more. */
    private static Host withLocals(int count) {
        Asm code = new Asm(0, count, 1);
        for (int i = 0; i < count; i++) {
            code.load(100 + i).op(Asm.SET, i);
        }
        Host host = Host.of(code.op(Asm.GO_TO, 0));
        if (count > 0) {
            host.run(2 * count);
        }
        return host;
    }

    static void promise10_noLocals(Check check) {
        Host host = withLocals(0);
        for (int i : new int[] {-1, 0, 1, 7, 8}) {
            check.due("i = " + i, host.local(i), "nothing");
        }
    }

    static void promise10_firstAndLastOfEveryCount(Check check) {
        for (int count = 1; count <= 8; count++) {
            Host host = withLocals(count);
            check.due("i = -1", host.local(-1), "nothing");
            check.due("i = 0", host.local(0), "100");
            check.due("the last of " + count, host.local(count - 1), "" + (99 + count));
            check.due("one behind the last of " + count, host.local(count), "nothing");
        }
    }

    static void promise10_iTooSmall(Check check) {
        Host host = withLocals(8);
        for (int i : new int[] {-1, -8, Integer.MIN_VALUE}) {
            check.due("i = " + i, host.local(i), "nothing");
        }
    }

    static void promise10_iTooLarge(Check check) {
        Host host = withLocals(8);
        check.due("i = 7", host.local(7), "107");
        for (int i : new int[] {8, 9, 100, Integer.MAX_VALUE}) {
            check.due("i = " + i, host.local(i), "nothing");
        }
    }

    static void promise10_kOutsideTheRow(Check check) {
        Host host = withLocals(1);
        check.due("k = 0", host.x.local(0, 0), 3);
        check.due("k = 3", host.x.local(0, 3), 100);
        for (int k : new int[] {Integer.MIN_VALUE, -1, 4, 299, 300, Integer.MAX_VALUE}) {
            check.due("k = " + k, host.x.local(0, k), -1);
        }
    }

    static void promise10_unset(Check check) {
        Host host = Host.of(new Asm(0, 2, 1).load(5).op(Asm.SET, 1).op(Asm.GO_TO, 0));
        host.run(1);
        check.due("before SET", host.local(1), "nothing");
        host.run(1);
        check.due("behind SET", host.local(1), "5");
        check.due("another one", host.local(0), "nothing");
        host.x.again();
        check.due("again", host.local(1), "nothing");
    }

    /** NONE is a value: its row is 0, not the answer NONE. */
    static void promise10_setToNone(Check check) {
        Host host = Host.of(new Asm(0, 1, 1).load(Asm.none()).op(Asm.SET, 0).op(Asm.GO_TO, 0));
        host.run(2);
        check.due("k = 0", host.x.local(0, 0), 0);
        check.due("k = 1", host.x.local(0, 1), -1);
    }

    static void promise10_argumentsOfTheFirstFrameAreUnset(Check check) {
        Host host = Host.of(new Asm(4, 4, 1).op(Asm.GO_TO, 0));
        for (int i = 0; i < 4; i++) {
            check.due("argument " + i, host.local(i), "nothing");
        }
    }

    static void promise10_leastAndMostArgumentsOfACall(Check check) {
        for (int count : new int[] {0, 1, 4}) {
            int[] function = new Asm(count, count + 1, 1).op(Asm.GO_TO, 0).bytes();
            Asm code = new Asm(0, 8, 6).load(9).op(Asm.SET, count).load(function).op(Asm.FUNCTION);
            for (int i = 0; i < count; i++) {
                code.load(20 + i);
            }
            Host host = Host.of(code.op(Asm.CALL, count).op(Asm.RETURN));
            host.run(5 + count);
            check.due("frames", host.x.about(1), 2);
            for (int i = 0; i < count; i++) {
                check.due("argument " + i + " of " + count, host.local(i), "" + (20 + i));
            }
            check.due("the one behind them is unset", host.local(count), "nothing");
        }
    }

    static void promise10_innermostFrameAlone(Check check) {
        Host host = Host.of(new Asm(0, 8, 2).load(5).op(Asm.SET, 7).load(Samples.SAME).op(Asm.FUNCTION).load(6)
                .op(Asm.CALL, 1).op(Asm.RETURN));
        host.run(6);
        check.due("its argument", host.local(0), "6");
        check.due("none of the frame that called", host.local(7), "nothing");
        host.run(2);
        check.due("none of the frame that is gone", host.local(0), "nothing");
        check.due("its own one again", host.local(7), "5");
    }

    /** A frame that is used anew has nothing of what was set in it. */
    static void promise10_aSecondCallBeginsUnset(Check check) {
        int[] function = new Asm(0, 2, 1).load(3).op(Asm.SET, 1).op(Asm.LOCAL, 1).op(Asm.RETURN).bytes();
        Host host = Host.of(new Asm(0, 0, 2).load(function).op(Asm.FUNCTION).op(Asm.DUP).op(Asm.CALL, 0)
                .op(Asm.POP).op(Asm.CALL, 0).op(Asm.RETURN));
        host.run(6);
        check.due("in the first call", host.local(1), "3");
        host.run(4);
        check.due("in the second call", host.about(), "1 2 0 0 0 -1 10 0");
        check.due("unset", host.local(1), "nothing");
    }

    static void promise10_noCodeAndEnded(Check check) {
        check.due("no CODE", new Host().local(0), "nothing");
        Host host = new Host();
        host.ending(new Asm(0, 1, 1).load(1).op(Asm.SET, 0).load(2).op(Asm.RETURN));
        check.due("ended with a value", host.local(0), "nothing");
        host.ending(new Asm(0, 1, 1).load(1).op(Asm.SET, 0).get("nobody").op(Asm.RETURN));
        check.due("ended by an exception", host.local(0), "nothing");
    }
}
