import java.util.Arrays;

/** The boundaries of promise 3: what is read, what is refused, and what stays then. */
public final class Promise03ReadTest {
    public static void main(String[] args) throws ReflectiveOperationException {
        Cases.of(Promise03ReadTest.class);
    }

    static void promise3_emptyTape(Check check) {
        check.due("read", new Host().read(), "IllegalArgumentException 0");
    }

    static void promise3_oneByte(Check check) {
        check.due("99 alone", new Host().read(99), "IllegalArgumentException 1");
        check.due("another one", new Host().read(98), "IllegalArgumentException 0");
    }

    static void promise3_shortestCode(Check check) {
        int[] shortest = Samples.endless().bytes();
        check.due("its length", shortest.length, 10);
        check.due("just it", new Host().read(shortest), "fine");
        check.due("one byte less", new Host().read(Arrays.copyOf(shortest, 9)), "IllegalArgumentException 9");
        check.due("one byte more", new Host().read(Arrays.copyOf(shortest, 11)), "IllegalArgumentException 10");
    }

    static void promise3_longestTape(Check check) {
        for (int length = 796; length <= 800; length++) {
            int[] bytes = Samples.ofLength(length);
            check.due("its length", bytes.length, length);
            check.due("a CODE of " + length, new Host().read(bytes), "fine");
        }
        check.due("a CODE that would have 801", new Host().read(Arrays.copyOf(Samples.ofLength(801), 800)),
                "IllegalArgumentException 800");
        check.due("a byte behind one of 799", new Host().read(Arrays.copyOf(Samples.ofLength(799), 800)),
                "IllegalArgumentException 799");
    }

    static void promise3_tapeIsEmptyThen_behindAGoodRead(Check check) {
        Host host = new Host();
        check.due("read", host.read(Samples.endless()), "fine");
        check.due("read at once again", host.read(), "IllegalArgumentException 0");
        check.due("read", host.read(Samples.endless()), "fine");
        check.due("feed's length", host.x.feed(0, 1), 1);
    }

    static void promise3_tapeIsEmptyThen_behindIllegalArgument(Check check) {
        Host host = new Host();
        check.due("read", host.read(1, 2, 3, 4, 5), "IllegalArgumentException 0");
        check.due("feed's length", host.x.feed(0, 2), 2);
        check.due("read", host.read(), "IllegalArgumentException 0");
        check.due("read at once again", host.read(), "IllegalArgumentException 0");
        check.due("a good one", host.read(Samples.endless()), "fine");
    }

    static void promise3_tapeIsEmptyThen_behindIllegalState(Check check) {
        Host host = new Host();
        check.due("read", host.read(Samples.NOT_AS_IT_MUST_BE), "IllegalStateException 0");
        check.due("feed's length", host.x.feed(0, 4), 4);
        check.due("read", host.read(), "IllegalArgumentException 0");
        check.due("a good one", host.read(Samples.endless()), "fine");
    }

    /** Bytes of a longer tape that was there before are no part of a shorter one. */
    static void promise3_tapeIsEmptyThen_oldBytesAreGone(Check check) {
        int[] bytes = Samples.returns(5).bytes();
        for (int length = 0; length < bytes.length; length++) {
            Host host = new Host();
            host.read(bytes);
            check.due("its first " + length, host.read(Arrays.copyOf(bytes, length)),
                    "IllegalArgumentException " + length);
        }
    }

    static void promise3_atItsBeginning(Check check) {
        Host host = Host.of(new Asm(0, 2, 3).load(1).op(Asm.SET, 0).op(Asm.BLOCK, 4).load(2)
                .op(Asm.RAISE, 1).op(Asm.RETURN));
        check.due("about at first", host.about(), "1 1 0 0 0 -1 0 0");
        host.run(4);
        check.due("about then", host.about(), "1 1 8 1 1 -1 4 0");
        host.read(new Asm(0, 2, 3).load(1).op(Asm.RETURN));
        check.due("about behind the next read", host.about(), "1 1 0 0 0 -1 0 0");
        check.due("its stack", host.stack(0), "nothing");
        check.due("its local", host.local(0), "nothing");
    }

    static void promise3_atItsBeginning_inDeepFrames(Check check) {
        Host host = Host.of(Samples.recursion(6, Samples.untilZero().op(Asm.LOCAL, 0).op(Asm.RETURN)));
        host.run(49);
        check.due("frames", host.x.about(1), 8);
        host.read(Samples.returns(3));
        check.due("about behind the next read", host.about(), "1 1 0 0 0 -1 0 1");
        check.due("its end", host.run(200), "2");
        check.due("its value", host.result(), "3");
    }

    static void promise3_atItsBeginning_behindAnEnd(Check check) {
        Host host = new Host();
        host.ending(Samples.returns(9));
        host.read(Samples.raises());
        check.due("about behind an end with a value", host.about(), "1 1 0 0 0 -1 0 0");
        check.due("no result any more", host.result(), "nothing");
        host.run(1);
        check.due("ended", host.about(), "3 0 0 0 0 4 1 0");
        host.read(Samples.returns(8));
        check.due("about behind an end by an exception", host.about(), "1 1 0 0 0 -1 0 0");
    }

    static void promise3_namesStay(Check check) {
        Host host = new Host();
        host.ending(new Asm(0, 0, 1).load(7).put("kept").load(0).op(Asm.RETURN));
        host.read(new Asm(0, 0, 1).get("kept").op(Asm.RETURN));
        check.due("names stored", host.x.about(7), 1);
        check.due("the name", host.global("kept"), "7");
        host.run(2);
        check.due("by its name", host.result(), "7");
    }

    /** Both kinds of refusal in each state; the state and all answers are as before. */
    private static void refusals(Check check, Host host) {
        String about = host.about();
        String values = values(host);
        check.due("no CODE", host.read(Samples.NO_CODE), "IllegalArgumentException 1");
        check.due("about behind it", host.about(), about);
        check.due("values behind it", values(host), values);
        check.due("not as it must be", host.read(Samples.NOT_AS_IT_MUST_BE), "IllegalStateException 0");
        check.due("about behind it", host.about(), about);
        check.due("values behind it", values(host), values);
    }

    private static String values(Host host) {
        return host.result() + " " + host.stack(0) + " " + host.local(0) + " " + host.global("a");
    }

    static void promise3_refused_thereIsNoCodeStill(Check check) {
        Host host = new Host();
        refusals(check, host);
        check.due("again()", host.x.again(), false);
        check.due("run(1)", host.run(1), "IllegalStateException");
    }

    static void promise3_refused_whatIsUnderWayStays(Check check) {
        Host host = Host.of(new Asm(0, 1, 2).load(7).op(Asm.DUP).op(Asm.SET, 0).op(Asm.DUP).put("a")
                .op(Asm.RETURN));
        refusals(check, host);
        host.run(5);
        check.due("values", values(host), "nothing 7 7 7");
        refusals(check, host);
        check.due("it goes on", host.run(200), "1");
        check.due("its end", host.result(), "7");
    }

    static void promise3_refused_whatEndedWithAValueStays(Check check) {
        Host host = new Host();
        host.ending(Samples.returns(5));
        refusals(check, host);
        check.due("its value", host.result(), "5");
        check.due("again()", host.x.again(), true);
        check.due("it runs", host.run(200), "2");
    }

    static void promise3_refused_whatEndedByAnExceptionStays(Check check) {
        Host host = new Host();
        host.ending(Samples.raises());
        refusals(check, host);
        check.due("its KIND", host.x.about(5), 4);
        check.due("again()", host.x.again(), true);
        check.due("it runs", host.run(200), "1");
    }

    /** It must be a CODE before it is looked at. */
    static void promise3_bothFaults(Check check) {
        check.due("a byte behind a CODE that is not as it must be",
                new Host().read(Asm.join(Samples.NOT_AS_IT_MUST_BE, new int[] {0})), "IllegalArgumentException 10");
        int[] outer = new Asm(0, 0, 1).op(0).constant(Samples.NOT_AS_IT_MUST_BE).bytes();
        check.due("cut behind an inner one that is not as it must be",
                new Host().read(Arrays.copyOf(outer, outer.length - 1)),
                "IllegalArgumentException " + (outer.length - 1));
    }
}
