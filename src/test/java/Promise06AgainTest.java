/** The boundaries of promise 6: no CODE, every state that there is, and what stays. */
public final class Promise06AgainTest {
    private static final String BEGINNING = "1 1 0 0 0 -1 0 0";

    public static void main(String[] args) throws ReflectiveOperationException {
        Cases.of(Promise06AgainTest.class);
    }

    static void promise6_thereIsNoCode(Check check) {
        Host host = new Host();
        check.due("again()", host.x.again(), false);
        check.due("still no CODE", host.about(), "0 0 0 0 0 -1 0 0");
        host.read(Samples.NO_CODE);
        check.due("behind a read of no CODE", host.x.again(), false);
        host.read(Samples.NOT_AS_IT_MUST_BE);
        check.due("behind a read of one that is not as it must be", host.x.again(), false);
        host.read(Samples.endless());
        check.due("behind a good read", host.x.again(), true);
    }

    static void promise6_atItsBeginningAlready(Check check) {
        Host host = Host.of(Samples.endless());
        check.due("again()", host.x.again(), true);
        check.due("about", host.about(), BEGINNING);
        check.due("again() again", host.x.again(), true);
        check.due("about", host.about(), BEGINNING);
    }

    static void promise6_underWay(Check check) {
        Host host = Host.of(new Asm(0, 1, 2).load(5).op(Asm.SET, 0).op(Asm.BLOCK, 4).load(6)
                .op(Asm.RAISE, 1).op(Asm.RETURN));
        host.run(4);
        check.due("about", host.about(), "1 1 8 1 1 -1 4 0");
        check.due("the local", host.local(0), "5");
        check.due("again()", host.x.again(), true);
        check.due("about", host.about(), BEGINNING);
        check.due("the stack is empty", host.stack(0), "nothing");
        check.due("the local is unset", host.local(0), "nothing");
        check.due("it runs as before", host.run(4), "4");
        check.due("about", host.about(), "1 1 8 1 1 -1 4 0");
    }

    static void promise6_inTheEighthFrame(Check check) {
        Host host = Host.of(Samples.recursion(6, Samples.untilZero().op(Asm.LOCAL, 0).op(Asm.RETURN)));
        host.run(49);
        check.due("frames", host.x.about(1), 8);
        check.due("again()", host.x.again(), true);
        check.due("about", host.about(), "1 1 0 0 0 -1 0 1");
        check.due("to its end", host.run(200), "59");
        check.due("its value", host.result(), "0");
    }

    static void promise6_endedWithAValue(Check check) {
        Host host = new Host();
        host.ending(Samples.returns(5));
        check.due("again()", host.x.again(), true);
        check.due("about", host.about(), BEGINNING);
        check.due("no value", host.result(), "nothing");
        check.due("to its end", host.run(200), "2");
        check.due("its value", host.result(), "5");
    }

    static void promise6_endedByAnException(Check check) {
        Host host = new Host();
        host.ending(Samples.raises());
        check.due("about", host.about(), "3 0 0 0 0 4 1 0");
        check.due("again()", host.x.again(), true);
        check.due("about", host.about(), BEGINNING);
        check.due("to its end", host.run(200), "1");
        check.due("about", host.about(), "3 0 0 0 0 4 1 0");
    }

    static void promise6_namesStay(Check check) {
        Host host = new Host();
        host.ending(new Asm(0, 0, 1).load(3).put("a").load(4).op(Asm.RETURN));
        check.due("again()", host.x.again(), true);
        check.due("about", host.about(), "1 1 0 0 0 -1 0 1");
        check.due("the name", host.global("a"), "3");
    }

    /** A walker that is stored stays with its place. */
    static void promise6_namesStay_asTheyAre(Check check) {
        Host host = new Host();
        host.ending(new Asm(0, 0, 1).load(Asm.tuple(Asm.number(1), Asm.number(2))).op(Asm.WALK).put("w")
                .load(0).op(Asm.RETURN));
        host.read(new Asm(0, 0, 2).get("w").op(Asm.NEXT, 2).op(Asm.RETURN).load(Asm.none()).op(Asm.RETURN));
        for (String want : new String[] {"1", "2", "NONE", "NONE"}) {
            host.run(200);
            check.due("the next one", host.result(), want);
            check.due("again()", host.x.again(), true);
        }
    }

    static void promise6_behindARefusedRead(Check check) {
        Host host = new Host();
        host.ending(Samples.returns(5));
        host.read(Samples.NO_CODE);
        check.due("again()", host.x.again(), true);
        check.due("the one before", host.run(200), "2");
        check.due("its value", host.result(), "5");
        check.due("the fault stays", host.x.fault(), 1);
    }

    static void promise6_theTapeStays(Check check) {
        Host host = Host.of(Samples.endless());
        host.feedAll(99, 5);
        check.due("again()", host.x.again(), true);
        check.due("feed's length", host.x.feed(0, 1), 3);
    }
}
