/** Promises 5 to 7: fuel, frames, blocks and exceptions, again, and what about says of them. */
public final class RunTest {
    private static final Check CHECK = new Check("RunTest");

    public static void main(String[] args) {
        fuel();
        endByException();
        blocks();
        blocksOfCallers();
        deepCalls();
        rangeInTheEighthFrame();
        againAndAgain();
        aboutOtherThings();
        CHECK.end();
    }

    private static void fuel() {
        Host host = new Host();
        host.read(new Asm(0, 0, 1).load(5).put("a").op(Asm.GO_TO, 0));
        for (int n : new int[] {Integer.MIN_VALUE, -1, 0, 201, Integer.MAX_VALUE}) {
            CHECK.due("run(" + n + ")", host.run(n), "IllegalArgumentException");
        }
        CHECK.due("nothing has run", host.about(), "1 1 0 0 0 -1 0 0");
        CHECK.due("run(1)", host.run(1), "1");
        CHECK.due("one has run", host.about(), "1 1 2 1 0 -1 1 0");
        CHECK.due("run(1)", host.run(1), "1");
        CHECK.due("two have run", host.about(), "1 1 4 0 0 -1 2 1");
        CHECK.due("run(200)", host.run(200), "200");
        CHECK.due("202 have run", host.about(), "1 1 2 1 0 -1 202 1");
        host.read(new Asm(0, 0, 1).load(5).op(Asm.RETURN));
        CHECK.due("run(1)", host.run(1), "1");
        CHECK.due("run(200)", host.run(200), "1");
        CHECK.due("its end", host.about(), "2 0 0 0 0 -1 2 1");
        for (int n : new int[] {-1, 0, 1, 200, 201}) {
            CHECK.due("run(" + n + ") at its end", host.run(n), "IllegalStateException");
        }
        CHECK.due("its end again", host.about(), "2 0 0 0 0 -1 2 1");
    }

    private static void endByException() {
        Host host = new Host();
        host.read(new Asm(0, 1, 3).load(5).load(0).op(Asm.DIV).op(Asm.RETURN));
        CHECK.due("run", host.run(200), "3");
        CHECK.due("its end", host.about(), "3 0 0 0 0 1 3 0");
        CHECK.due("no value", host.result(), "nothing");
        CHECK.due("no stack", host.stack(0), "nothing");
        CHECK.due("no local", host.local(0), "nothing");
        CHECK.due("run at its end", host.run(1), "IllegalStateException");
    }

    private static void blocks() {
        Host host = new Host();
        host.read(new Asm(0, 0, 6).load(7).op(Asm.BLOCK, 14).load(8).op(Asm.BLOCK, 8).load(9).load(0)
                .op(Asm.DIV).op(Asm.GO_TO, 14).op(Asm.RAISE, 1).op(Asm.TUPLE, 2).op(Asm.RETURN));
        CHECK.due("run(6)", host.run(6), "6");
        CHECK.due("two blocks", host.about(), "1 1 12 4 2 -1 6 0");
        CHECK.due("the exception counts", host.run(1), "1");
        CHECK.due("in the inner handler", host.about(), "1 1 16 3 1 -1 7 0");
        CHECK.due("the KIND", host.stack(0), "KIND1");
        CHECK.due("below it", host.stack(1), "8");
        CHECK.due("raised again", host.run(1), "1");
        CHECK.due("in the outer handler", host.about(), "1 1 18 2 0 -1 8 0");
        CHECK.due("the KIND", host.stack(0), "KIND1");
        CHECK.due("below it", host.stack(1), "7");
        CHECK.due("run", host.run(200), "2");
        CHECK.due("its end", host.result(), "(7,KIND1)");
        host.read(new Asm(0, 0, 2).op(Asm.BLOCK, 6).op(Asm.BLOCK, 6).op(Asm.UNBLOCK).op(Asm.GO_TO, 6)
                .op(Asm.RETURN).op(Asm.RAISE, 1));
        CHECK.due("two blocks and UNBLOCK", host.run(3), "3");
        CHECK.due("one block", host.about(), "1 1 6 0 1 -1 3 0");
        CHECK.due("UNBLOCK leaves the stack", host.ending(new Asm(0, 0, 4).load(1).op(Asm.BLOCK, 8)
                .load(2).op(Asm.UNBLOCK).op(Asm.TUPLE, 2).op(Asm.RETURN).op(Asm.RETURN)), "(1,2)");
        CHECK.due("behind UNBLOCK none is caught", host.ending(new Asm(0, 0, 4).op(Asm.BLOCK, 8)
                .op(Asm.UNBLOCK).get("no").op(Asm.RETURN).op(Asm.RETURN).op(Asm.RETURN)), "raises 4");
    }

    private static Asm caught(int[] function) {
        return new Asm(0, 0, 4).load(1).op(Asm.BLOCK, 12).load(2).load(function).op(Asm.FUNCTION)
                .op(Asm.CALL, 0).op(Asm.RAISE, 1).op(0).op(Asm.TUPLE, 2).op(Asm.RETURN);
    }

    private static void blocksOfCallers() {
        Host host = new Host();
        int[] failing = new Asm(0, 0, 2).load(1).get("no").op(Asm.RETURN).bytes();
        CHECK.due("in the frame that called", host.ending(caught(failing)), "(1,KIND4)");
        CHECK.due("instructions", host.x.about(6), 10);
        int[] between = new Asm(0, 0, 2).load(failing).op(Asm.FUNCTION).op(Asm.CALL, 0).op(Asm.RETURN)
                .bytes();
        CHECK.due("over two frames", host.ending(caught(between)), "(1,KIND4)");
        int[] catching = new Asm(0, 0, 2).op(Asm.BLOCK, 6).load(failing).op(Asm.FUNCTION)
                .op(Asm.CALL, 0).op(Asm.RETURN).bytes();
        CHECK.due("a CODE without UNBLOCK", host.ending(caught(catching)), "IllegalStateException 1000");
        int[] returning = new Asm(0, 0, 2).op(Asm.BLOCK, 8).load(failing).op(Asm.FUNCTION)
                .op(Asm.CALL, 0).op(Asm.UNBLOCK).op(Asm.RETURN).bytes();
        CHECK.due("the inner frame's own block, then RAISE", host.ending(caught(returning)), "(1,KIND4)");
        host.read(caught(returning));
        CHECK.due("run(5)", host.run(5), "5");
        CHECK.due("in the first frame", host.about(), "1 1 10 3 1 -1 5 0");
        CHECK.due("CALL", host.run(1), "1");
        CHECK.due("in the second frame", host.about(), "1 2 0 0 0 -1 6 0");
        CHECK.due("its block, its CODE, FUNCTION, CALL", host.run(4), "4");
        CHECK.due("in the third frame", host.about(), "1 3 0 0 0 -1 10 0");
        CHECK.due("what fails there", host.run(2), "2");
        CHECK.due("in the second one's handler", host.about(), "1 2 10 1 0 -1 12 0");
        CHECK.due("RETURN", host.run(1), "1");
        CHECK.due("in the first frame again", host.about(), "1 1 12 3 1 -1 13 0");
        CHECK.due("the result", host.stack(0), "KIND4");
    }

    /** f(n) = n = 0 ? 0 : f(n - 1), with n + 2 frames. */
    private static Asm recursion(int n) {
        int[] function = new Asm(1, 1, 3).op(Asm.LOCAL, 0).op(Asm.GO_IF_FALSE, 16).get("f")
                .op(Asm.LOCAL, 0).load(1).op(Asm.SUB).op(Asm.CALL, 1).op(Asm.RETURN)
                .op(Asm.LOCAL, 0).op(Asm.RETURN).bytes();
        return new Asm(0, 0, 2).load(function).op(Asm.FUNCTION).put("f").get("f").load(n)
                .op(Asm.CALL, 1).op(Asm.RETURN);
    }

    private static void deepCalls() {
        Host host = new Host();
        CHECK.due("8 frames", host.ending(recursion(6)), "0");
        CHECK.due("9 frames", host.ending(recursion(7)), "raises 5");
        CHECK.due("all frames are gone", host.about(), "3 0 0 0 0 5 55 1");
        host.read(recursion(7));
        int most = 0;
        for (int i = 0; i < 400 && host.x.about(0) == 1; i++) {
            host.run(1);
            most = Math.max(most, host.x.about(1));
        }
        CHECK.due("never more frames than", most, 8);
        int[] wrongCall = new Asm(1, 1, 3).op(Asm.LOCAL, 0).op(Asm.GO_IF_FALSE, 16).get("f")
                .op(Asm.LOCAL, 0).load(1).op(Asm.SUB).op(Asm.CALL, 1).op(Asm.RETURN)
                .get("f").op(Asm.CALL, 0).op(Asm.RETURN).bytes();
        CHECK.due("wrong arguments in the 8th frame", host.ending(new Asm(0, 0, 2).load(wrongCall)
                .op(Asm.FUNCTION).put("f").get("f").load(6).op(Asm.CALL, 1).op(Asm.RETURN)), "raises 0");
    }

    /** RANGE needs no frame: with step 0 it could not be told otherwise which KIND is due. */
    private static void rangeInTheEighthFrame() {
        int[] function = new Asm(1, 1, 3).op(Asm.LOCAL, 0).op(Asm.GO_IF_FALSE, 16).get("f")
                .op(Asm.LOCAL, 0).load(1).op(Asm.SUB).op(Asm.CALL, 1).op(Asm.RETURN)
                .get("range").op(Asm.CONSTANT, 0).op(Asm.CALL, 1).op(Asm.RETURN).bytes();
        CHECK.due("RANGE in the 8th frame", new Host().ending(new Asm(0, 0, 2).load(function)
                .op(Asm.FUNCTION).put("f").get("f").load(6).op(Asm.CALL, 1).op(Asm.RETURN)),
                "range(0,1,1)");
    }

    private static void againAndAgain() {
        Host host = new Host();
        host.read(new Asm(0, 1, 2).load(5).op(Asm.SET, 0).op(Asm.BLOCK, 6).get("n").put("m")
                .op(Asm.GO_TO, 6).put("n").op(Asm.LOCAL, 0).op(Asm.RETURN));
        CHECK.due("run(4)", host.run(4), "4");
        CHECK.due("in the handler", host.about(), "1 1 12 1 0 -1 4 0");
        CHECK.due("again", host.x.again(), true);
        CHECK.due("at its beginning", host.about(), "1 1 0 0 0 -1 0 0");
        CHECK.due("locals are unset", host.local(0), "nothing");
        CHECK.due("run to its end", host.run(200), "7");
        CHECK.due("its end", host.about(), "2 0 0 0 0 -1 7 1");
        CHECK.due("its value", host.result(), "5");
        CHECK.due("again", host.x.again(), true);
        CHECK.due("names stay", host.about(), "1 1 0 0 0 -1 0 1");
        CHECK.due("no value", host.result(), "nothing");
        CHECK.due("otherwise with the name", host.run(200), "200");
        host.ending(new Asm(0, 0, 1).get("nobody").op(Asm.RETURN));
        CHECK.due("ended by", host.x.about(5), 4);
        CHECK.due("again", host.x.again(), true);
        CHECK.due("no KIND", host.about(), "1 1 0 0 0 -1 0 2");
        CHECK.due("a wrong read", host.read(1), "IllegalArgumentException 0");
        CHECK.due("again", host.x.again(), true);
        CHECK.due("the one before", host.run(9), "1");
        CHECK.due("the same end", host.ended(), "raises 4");
        host.read(recursion(6));
        host.run(30);
        CHECK.due("frames", host.x.about(1) > 1, true);
        CHECK.due("again", host.x.again(), true);
        CHECK.due("one frame", host.x.about(1), 1);
    }

    private static void aboutOtherThings() {
        Host host = new Host();
        host.ending(new Asm(0, 0, 1).load(1).op(Asm.RETURN));
        for (int what : new int[] {Integer.MIN_VALUE, -1, 8, 9, Integer.MAX_VALUE}) {
            CHECK.due("about(" + what + ")", host.x.about(what), -1);
        }
    }
}
