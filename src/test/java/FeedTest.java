/** Promise 2: the lowest n bytes, the highest of them first; at most 800. */
public final class FeedTest {
    private static final Check CHECK = new Check("FeedTest");

    public static void main(String[] args) {
        wrongCounts();
        order();
        fullTape();
        CHECK.end();
    }

    private static void wrongCounts() {
        Host host = new Host();
        for (int n : new int[] {Integer.MIN_VALUE, -1, 0, 5, 8, Integer.MAX_VALUE}) {
            CHECK.due("feed(7, " + n + ")", host.x.feed(7, n), -1);
        }
        CHECK.due("nothing has come", host.x.feed(99, 1), 1);
        CHECK.due("feed(-1, 4)", host.x.feed(-1, 4), 5);
        CHECK.due("feed(-1, 3)", host.x.feed(-1, 3), 8);
        CHECK.due("feed(-1, 2)", host.x.feed(-1, 2), 10);
        CHECK.due("read", host.read(), "IllegalArgumentException 1");
        CHECK.due("the tape is empty", host.x.feed(99, 1), 1);
    }

    /** 99 0 0 1 / 2 0 / 83 0 would want a value: so CONSTANT 0 stands before it. */
    private static void order() {
        Host host = new Host();
        CHECK.due("4 bytes", host.x.feed(0x63000001, 4), 4);
        CHECK.due("3 bytes of 4", host.x.feed(0x77040064, 3), 7);
        CHECK.due("1 byte of 4", host.x.feed(0x11223300, 1), 8);
        CHECK.due("2 bytes of 4", host.x.feed(0x77885300, 2), 10);
        CHECK.due("4 bytes", host.x.feed(0x01698001, 4), 14);
        CHECK.due("3 bytes", host.x.feed(0x00FF00, 3), 17);
        CHECK.due("read", host.read(), "fine");
        CHECK.due("run", host.run(9), "2");
        CHECK.due("the bytes as they came", host.result(), "-16776832");
    }

    private static void fullTape() {
        Host host = new Host();
        for (int i = 1; i <= 199; i++) {
            CHECK.due("word " + i, host.x.feed(0, 4), 4 * i);
        }
        CHECK.due("up to 799", host.x.feed(0, 3), 799);
        CHECK.due("2 more", host.x.feed(0, 2), -1);
        CHECK.due("4 more", host.x.feed(0, 4), -1);
        CHECK.due("1 more", host.x.feed(0, 1), 800);
        CHECK.due("1 too many", host.x.feed(0, 1), -1);
        CHECK.due("read", host.read(), "IllegalArgumentException 0");
        CHECK.due("again from the beginning", host.x.feed(0, 4), 4);
    }
}
