/** The boundaries of promise 7: what is 0 .. 7, and the least and the most of each. */
public final class Promise07AboutTest {
    public static void main(String[] args) throws ReflectiveOperationException {
        Cases.of(Promise07AboutTest.class);
    }

    private static Host ended(Asm code) {
        Host host = Host.of(code);
        host.run(200);
        return host;
    }

    private static void otherWhats(Check check, int... whats) {
        Host[] hosts = {new Host(), Host.of(Samples.endless()), ended(Samples.returns(1)),
            ended(Samples.raises())};
        for (Host host : hosts) {
            for (int what : whats) {
                check.due("about(" + what + ") in state " + host.x.about(0), host.x.about(what), -1);
            }
        }
    }

    static void promise7_whatTooSmall(Check check) {
        otherWhats(check, -1, -2, Integer.MIN_VALUE);
        check.due("about(0)", new Host().x.about(0), 0);
    }

    static void promise7_whatTooLarge(Check check) {
        otherWhats(check, 8, 9, 256, Integer.MAX_VALUE);
        check.due("about(7)", new Host().x.about(7), 0);
    }

    static void promise7_what0_eachState(Check check) {
        check.due("no CODE", new Host().x.about(0), 0);
        check.due("under way, at its beginning", Host.of(Samples.returns(1)).x.about(0), 1);
        Host host = Host.of(Samples.returns(1));
        host.run(1);
        check.due("under way, one before its end", host.x.about(0), 1);
        host.run(1);
        check.due("ended with a value", host.x.about(0), 2);
        check.due("ended by an exception", ended(Samples.raises()).x.about(0), 3);
    }

    static void promise7_what0_endedWithNoneOrAKind(Check check) {
        Host none = ended(new Asm(0, 0, 1).load(Asm.none()).op(Asm.RETURN));
        check.due("with NONE", none.about(), "2 0 0 0 0 -1 2 0");
        Host kind = ended(new Asm(0, 0, 1).get("over").op(Asm.RETURN));
        check.due("with a KIND as its value", kind.about(), "2 0 0 0 0 -1 2 0");
    }

    static void promise7_what1_frames(Check check) {
        check.due("no CODE", new Host().x.about(1), 0);
        Host host = Host.of(Samples.recursion(6, Samples.untilZero().op(Asm.LOCAL, 0).op(Asm.RETURN)));
        check.due("at its beginning", host.x.about(1), 1);
        host.run(6);
        for (int frames = 2; frames <= 8; frames++) {
            check.due("frames", host.x.about(1), frames);
            host.run(frames < 8 ? 7 : 4);
        }
        for (int frames = 7; frames >= 1; frames--) {
            check.due("frames on the way back", host.x.about(1), frames);
            host.run(1);
        }
        check.due("ended", host.x.about(1), 0);
        check.due("ended by an exception", ended(Samples.raises()).x.about(1), 0);
    }

    /** The last place of the longest CODE is 158. */
    static void promise7_what2_place(Check check) {
        Asm code = new Asm(0, 0, 1).op(Asm.GO_TO, 158);
        while (code.place() < 158) {
            code.op(0);
        }
        Host host = Host.of(code.op(Asm.GO_TO, 0));
        check.due("at its beginning", host.x.about(2), 0);
        host.run(1);
        check.due("at the last place", host.x.about(2), 158);
        host.run(1);
        check.due("at the first place", host.x.about(2), 0);
        check.due("no CODE", new Host().x.about(2), 0);
        check.due("ended with a value", ended(Samples.returns(1)).x.about(2), 0);
        check.due("ended by an exception", ended(Samples.raises()).x.about(2), 0);
    }

    static void promise7_what3_stack(Check check) {
        Asm code = new Asm(0, 0, 10).constant(Asm.none());
        for (int i = 0; i < 10; i++) {
            code.op(Asm.CONSTANT, 0);
        }
        for (int i = 0; i < 9; i++) {
            code.op(Asm.POP);
        }
        Host host = Host.of(code.op(Asm.RETURN));
        for (int i = 0; i < 20; i++) {
            check.due("behind " + i, host.x.about(3), i <= 10 ? i : 20 - i);
            host.run(1);
        }
        check.due("ended with a value", host.x.about(3), 0);
        check.due("ended by an exception", ended(new Asm(0, 0, 2).load(1).get("nobody").op(Asm.RETURN))
                .x.about(3), 0);
        check.due("no CODE", new Host().x.about(3), 0);
    }

    static void promise7_what4_blocks(Check check) {
        Host host = Host.of(new Asm(0, 0, 1).op(Asm.BLOCK, 22).op(Asm.BLOCK, 18).op(Asm.BLOCK, 14)
                .op(Asm.BLOCK, 10).op(Asm.UNBLOCK).op(Asm.UNBLOCK).op(Asm.UNBLOCK).op(Asm.UNBLOCK)
                .op(Asm.GO_TO, 0).op(Asm.RAISE, 1).op(Asm.RAISE, 1).op(Asm.RAISE, 1).op(Asm.RETURN));
        for (int i = 0; i < 9; i++) {
            check.due("behind " + i, host.x.about(4), i <= 4 ? i : 8 - i);
            host.run(1);
        }
        host = Host.of(new Asm(0, 0, 1).op(Asm.BLOCK, 4).get("nobody").op(Asm.RAISE, 1).op(Asm.RAISE, 1));
        host.run(1);
        check.due("in a block", host.x.about(4), 1);
        host.run(1);
        check.due("in its handler", host.x.about(4), 0);
        host.run(1);
        check.due("ended", host.x.about(4), 0);
        check.due("no CODE", new Host().x.about(4), 0);
    }

    static void promise7_what4_blocksOfTheInnermostFrameAlone(Check check) {
        Host host = Host.of(new Asm(0, 0, 2).op(Asm.BLOCK, 10).load(Samples.SAME).op(Asm.FUNCTION).load(1)
                .op(Asm.CALL, 1).op(Asm.RAISE, 1).op(Asm.RETURN));
        host.run(4);
        check.due("before CALL", host.about(), "1 1 8 2 1 -1 4 0");
        host.run(1);
        check.due("behind CALL", host.about(), "1 2 0 0 0 -1 5 0");
    }

    static void promise7_what5_noKind(Check check) {
        check.due("no CODE", new Host().x.about(5), -1);
        check.due("under way", Host.of(Samples.endless()).x.about(5), -1);
        check.due("ended with a value", ended(Samples.returns(0)).x.about(5), -1);
        Host caught = Host.of(new Asm(0, 0, 1).op(Asm.BLOCK, 4).get("nobody").op(Asm.RAISE, 1).op(Asm.RETURN));
        caught.run(2);
        check.due("one that a block took", caught.x.about(5), -1);
    }

    static void promise7_what5_eachKind(Check check) {
        String[] names = {"typ", "zero", "index", "value", "name", "deep", "over"};
        for (int kind = 0; kind < names.length; kind++) {
            check.due(names[kind], ended(new Asm(0, 0, 1).get(names[kind]).op(Asm.RAISE, 1)).x.about(5), kind);
        }
    }

    static void promise7_what6_sinceItsBeginning(Check check) {
        check.due("no CODE", new Host().x.about(6), 0);
        Host host = Host.of(Samples.endless());
        check.due("at its beginning", host.x.about(6), 0);
        host.run(1);
        check.due("one", host.x.about(6), 1);
        host.run(200);
        check.due("201", host.x.about(6), 201);
        host.x.again();
        check.due("at its beginning again", host.x.about(6), 0);
        host.run(3);
        host.read(Samples.returns(1));
        check.due("at another one's beginning", host.x.about(6), 0);
        host.run(200);
        check.due("at its end", host.x.about(6), 2);
        host.run(200);
        check.due("behind a run that is refused", host.x.about(6), 2);
    }

    static void promise7_what7_namesStored(Check check) {
        Host host = new Host();
        for (int i = 1; i <= 16; i++) {
            String name = "n" + (char) ('a' + i);
            host.ending(new Asm(0, 0, 1).load(i).put(name).load(i).put(name).load(0).op(Asm.RETURN));
            check.due("names", host.x.about(7), i);
        }
        check.due("one more", host.ending(new Asm(0, 0, 1).load(1).put("more").load(0).op(Asm.RETURN)),
                "raises 6");
        check.due("names", host.x.about(7), 16);
    }
}
