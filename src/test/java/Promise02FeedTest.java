/** The boundaries of promise 2: n is 1 .. 4, and the tape has at most 800. */
public final class Promise02FeedTest {
    public static void main(String[] args) throws ReflectiveOperationException {
        Cases.of(Promise02FeedTest.class);
    }

    /** A new one with so many bytes of 0 on its tape. */
    private static Host filled(int length) {
        Host host = new Host();
        host.feedAll(new int[length]);
        return host;
    }

    static void promise2_nTooSmall(Check check) {
        for (int n : new int[] {0, -1, -4, Integer.MIN_VALUE}) {
            Host host = new Host();
            check.due("feed(7, " + n + ")", host.x.feed(7, n), -1);
            check.due("none has come behind " + n, host.x.feed(7, 1), 1);
        }
    }

    static void promise2_nTooLarge(Check check) {
        for (int n : new int[] {5, 6, 8, 800, Integer.MAX_VALUE}) {
            Host host = new Host();
            check.due("feed(7, " + n + ")", host.x.feed(7, n), -1);
            check.due("none has come behind " + n, host.x.feed(7, 1), 1);
        }
    }

    static void promise2_nWithinBounds(Check check) {
        for (int n = 1; n <= 4; n++) {
            Host host = new Host();
            check.due("feed(7, " + n + ")", host.x.feed(7, n), n);
            check.due("the same once more", host.x.feed(7, n), 2 * n);
        }
    }

    /** The number that these feeds make, four bytes in all, the lowest byte first. */
    private static String number(int... wordsAndCounts) {
        Host host = new Host();
        host.feedAll(99, 0, 0, 1, 4, 0, 100, 0, 83, 0, 1, 105);
        for (int i = 0; i + 1 < wordsAndCounts.length; i += 2) {
            host.x.feed(wordsAndCounts[i], wordsAndCounts[i + 1]);
        }
        host.feedAll(0);
        String read = host.read();
        host.run(2);
        return read.equals("fine") ? host.result() : read;
    }

    static void promise2_fourBytes_theHighestFirst(Check check) {
        check.due("4 bytes", number(0x11223344, 4), "" + 0x44332211);
        check.due("4 bytes with the highest bit", number(0x80000001, 4), "" + 0x01000080);
        check.due("4 bytes of 255", number(-1, 4), "-1");
        check.due("4 bytes of 0", number(0, 4), "0");
    }

    static void promise2_fewerBytes_theLowestOfTheWord(Check check) {
        check.due("3 and 1", number(0xAA223344, 3, 0xBBCCDD11, 1), "" + 0x11443322);
        check.due("2 and 2", number(0xAABB3344, 2, 0xCCDD1122, 2), "" + 0x22114433);
        check.due("1 and 3", number(0xAABBCC44, 1, 0xFF112233, 3), "" + 0x33221144);
        check.due("1 four times", number(0x101, 1, -256, 1, 0x7FFFFF02, 1, 3, 1), "" + 0x03020001);
    }

    static void promise2_tapeJustFull(Check check) {
        for (int n = 1; n <= 4; n++) {
            check.due("feed n = " + n + " to 799", filled(799 - n).x.feed(0, n), 799);
            check.due("feed n = " + n + " to 800", filled(800 - n).x.feed(0, n), 800);
        }
    }

    static void promise2_tapeWouldHaveMoreThan800(Check check) {
        for (int n = 1; n <= 4; n++) {
            for (int length = 801 - n; length <= 800; length++) {
                Host host = filled(length);
                check.due("feed n = " + n + " behind " + length, host.x.feed(0, n), -1);
                int fits = 800 - length;
                check.due("none of it has come", fits == 0 ? 800 : host.x.feed(0, fits), 800);
            }
        }
    }

    static void promise2_fullTape_refusesAgainAndAgain(Check check) {
        Host host = filled(800);
        for (int n : new int[] {1, 4, 1, 2, 3, 0, 5, -1}) {
            check.due("feed n = " + n + " behind 800", host.x.feed(0, n), -1);
        }
        check.due("the tape as it was", host.read(), "IllegalArgumentException 0");
    }

    static void promise2_refusedBytesAreNotRead(Check check) {
        Host host = new Host();
        host.feedAll(Samples.ofLength(800));
        check.due("1 more behind 800", host.x.feed(7, 1), -1);
        check.due("read", host.read(), "fine");
        Host other = new Host();
        other.feedAll(Samples.ofLength(799));
        check.due("2 more behind 799", other.x.feed(7, 2), -1);
        check.due("read", other.read(), "fine");
        Host third = new Host();
        third.feedAll(Samples.endless().bytes());
        check.due("n = 5 behind a CODE", third.x.feed(7, 5), -1);
        check.due("n = 0 behind a CODE", third.x.feed(7, 0), -1);
        check.due("read", third.read(), "fine");
    }

    static void promise2_fullTape_isEmptyBehindRead(Check check) {
        Host host = filled(800);
        check.due("read", host.read(), "IllegalArgumentException 0");
        check.due("the first byte", host.x.feed(0, 1), 1);
        host.feedAll(new int[798]);
        check.due("the last byte", host.x.feed(0, 1), 800);
        check.due("one more", host.x.feed(0, 1), -1);
    }
}
