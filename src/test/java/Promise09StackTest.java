/** The boundaries of promise 9: i from the top (0) to the lowest one, k, and an empty stack. */
public final class Promise09StackTest {
    public static void main(String[] args) throws ReflectiveOperationException {
        Cases.of(Promise09StackTest.class);
    }

    /** So many numbers are on the stack, the lowest is 1. */
    private static Host withNumbers(int count) {
        Asm code = new Asm(0, 0, 10);
        for (int i = 1; i <= count; i++) {
            code.load(i);
        }
        Host host = Host.of(code.op(Asm.GO_TO, code.place()));
        if (count > 0) {
            host.run(count);
        }
        return host;
    }

    static void promise9_emptyStack(Check check) {
        Host host = withNumbers(0);
        for (int i : new int[] {-1, 0, 1, 9, 10}) {
            check.due("i = " + i, host.stack(i), "nothing");
        }
    }

    static void promise9_oneOnTheStack(Check check) {
        Host host = withNumbers(1);
        check.due("i = -1", host.stack(-1), "nothing");
        check.due("i = 0", host.stack(0), "1");
        check.due("i = 1", host.stack(1), "nothing");
    }

    static void promise9_fullStack(Check check) {
        Host host = withNumbers(10);
        for (int i = 0; i < 10; i++) {
            check.due("i = " + i, host.stack(i), "" + (10 - i));
        }
        check.due("i = 10", host.stack(10), "nothing");
        check.due("i = 11", host.stack(11), "nothing");
    }

    static void promise9_iTooSmall(Check check) {
        Host host = withNumbers(10);
        for (int i : new int[] {-1, -2, -10, Integer.MIN_VALUE}) {
            check.due("i = " + i, host.stack(i), "nothing");
        }
    }

    static void promise9_iTooLarge(Check check) {
        Host host = withNumbers(4);
        check.due("i = 3", host.stack(3), "1");
        for (int i : new int[] {4, 5, 9, 10, 100, Integer.MAX_VALUE}) {
            check.due("i = " + i, host.stack(i), "nothing");
        }
    }

    static void promise9_kOutsideTheRow(Check check) {
        Host host = withNumbers(2);
        check.due("k = 0", host.x.stack(0, 0), 3);
        check.due("k = 3", host.x.stack(0, 3), 2);
        for (int k : new int[] {Integer.MIN_VALUE, -1, 4, 299, 300, Integer.MAX_VALUE}) {
            check.due("k = " + k, host.x.stack(0, k), -1);
        }
    }

    static void promise9_whatHasGoneIsNotThere(Check check) {
        Host host = Host.of(new Asm(0, 0, 3).load(1).load(2).load(3).op(Asm.POP).op(Asm.POP).op(Asm.RETURN));
        host.run(4);
        check.due("top", host.stack(0), "2");
        check.due("lowest", host.stack(1), "1");
        check.due("below it", host.stack(2), "nothing");
        host.run(1);
        check.due("top", host.stack(0), "1");
        check.due("below it", host.stack(1), "nothing");
    }

    static void promise9_noCodeAndEnded(Check check) {
        check.due("no CODE", new Host().stack(0), "nothing");
        Host host = new Host();
        host.ending(new Asm(0, 0, 2).load(1).load(2).op(Asm.RETURN));
        check.due("ended with a value", host.stack(0), "nothing");
        host.ending(new Asm(0, 0, 2).load(1).get("nobody").op(Asm.RETURN));
        check.due("ended by an exception", host.stack(0), "nothing");
    }

    static void promise9_innermostFrameAlone(Check check) {
        Host host = Host.of(new Asm(0, 0, 3).load(5).load(Samples.SAME).op(Asm.FUNCTION).load(7)
                .op(Asm.CALL, 1).op(Asm.TUPLE, 2).op(Asm.RETURN));
        host.run(4);
        check.due("before CALL", host.stack(0) + " " + host.stack(1) + " " + host.stack(2),
                "7 function/1 5");
        host.run(1);
        check.due("behind CALL", host.stack(0), "nothing");
        host.run(1);
        check.due("its own one", host.stack(0), "7");
        check.due("none below it", host.stack(1), "nothing");
        host.run(1);
        check.due("behind RETURN", host.stack(0) + " " + host.stack(1) + " " + host.stack(2), "7 5 nothing");
    }

    static void promise9_cutByABlock(Check check) {
        Host host = Host.of(new Asm(0, 0, 4).load(1).op(Asm.BLOCK, 8).load(2).load(3).get("nobody")
                .op(Asm.RAISE, 1).op(Asm.RAISE, 1));
        host.run(4);
        check.due("before", host.stack(0) + " " + host.stack(1) + " " + host.stack(2), "3 2 1");
        host.run(1);
        check.due("behind", host.stack(0) + " " + host.stack(1) + " " + host.stack(2), "KIND4 1 nothing");
    }
}
