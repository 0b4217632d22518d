/** The boundaries of promise 11: names of one letter and of eight, 0 left out, and what nobody has stored. */
public final class Promise11GlobalTest {
    public static void main(String[] args) throws ReflectiveOperationException {
        Cases.of(Promise11GlobalTest.class);
    }

    /** Each is stored with its index. */
    private static Host stored(String... names) {
        Host host = new Host();
        for (int i = 0; i < names.length; i++) {
            host.ending(new Asm(0, 0, 1).load(i).put(names[i]).load(0).op(Asm.RETURN));
        }
        return host;
    }

    static void promise11_noNames(Check check) {
        for (long name : new long[] {0, 1, 'a', -1, Long.MIN_VALUE, Long.MAX_VALUE}) {
            check.due("global(" + name + ", 0)", new Host().x.global(name, 0), -1);
        }
    }

    static void promise11_emptyName(Check check) {
        check.due("the name 0", stored("a").x.global(0, 0), -1);
    }

    static void promise11_oneLetter(Check check) {
        Host host = stored("a", "z");
        check.due("a", host.global("a"), "0");
        check.due("z", host.global("z"), "1");
        check.due("b", host.global("b"), "nothing");
        check.due("y", host.global("y"), "nothing");
        check.due("aa", host.global("aa"), "nothing");
        check.due("the byte before a", host.x.global('a' - 1, 0), -1);
        check.due("the byte behind z", host.x.global('z' + 1, 0), -1);
        check.due("A", host.x.global('A', 0), -1);
    }

    static void promise11_eightLetters(Check check) {
        Host host = stored("abcdefgh", "abcdefg", "bcdefgh", "zzzzzzzz");
        check.due("eight", host.global("abcdefgh"), "0");
        check.due("the first seven", host.global("abcdefg"), "1");
        check.due("the last seven", host.global("bcdefgh"), "2");
        check.due("eight z", host.global("zzzzzzzz"), "3");
        check.due("seven z", host.global("zzzzzzz"), "nothing");
        check.due("another last letter", host.global("abcdefgi"), "nothing");
        check.due("another first letter", host.global("bbcdefgh"), "nothing");
    }

    static void promise11_zeroLeftOut_beforeBehindAndBetween(Check check) {
        Host host = stored("x", "ab");
        long a = 'a';
        long b = 'b';
        for (int first = 1; first < 8; first++) {
            for (int second = 0; second < first; second++) {
                check.due("a at byte " + first + ", b at byte " + second,
                        host.x.global(a << 8 * first | b << 8 * second, 3), 1);
                check.due("the other way round", host.x.global(b << 8 * first | a << 8 * second, 0), -1);
            }
        }
    }

    static void promise11_otherBytesAreNotLeftOut(Check check) {
        Host host = stored("a");
        for (long other : new long[] {1, 32, 96, 123, 128, 255}) {
            check.due("a byte " + other + " before a", host.x.global(other << 56 | 'a', 0), -1);
            check.due("a byte " + other + " behind a", host.x.global((long) 'a' << 8 | other, 0), -1);
        }
    }

    static void promise11_kOutsideTheRow(Check check) {
        Host host = stored("zero", "a");
        check.due("k = 0", host.x.global('a', 0), 3);
        check.due("k = 3", host.x.global('a', 3), 1);
        for (int k : new int[] {Integer.MIN_VALUE, -1, 4, 299, 300, Integer.MAX_VALUE}) {
            check.due("k = " + k, host.x.global('a', k), -1);
        }
    }

    static void promise11_builtOnesAreNotStored(Check check) {
        Host host = stored("a");
        for (String name : new String[] {"range", "typ", "zero", "index", "value", "name", "deep", "over"}) {
            check.due(name, host.global(name), "nothing");
            check.due(name + " when it is stored", stored("a", name).global(name), "1");
        }
    }

    static void promise11_storedAnew(Check check) {
        Host host = stored("a", "b", "a");
        check.due("a", host.global("a"), "2");
        check.due("b", host.global("b"), "1");
        check.due("names", host.x.about(7), 2);
    }

    static void promise11_sixteenNames(Check check) {
        String[] names = new String[17];
        for (int i = 0; i < names.length; i++) {
            names[i] = "n" + (char) ('a' + i);
        }
        Host host = stored(names);
        for (int i = 0; i < 16; i++) {
            check.due(names[i], host.global(names[i]), "" + i);
        }
        check.due("the 17th", host.global(names[16]), "nothing");
    }

    static void promise11_inEveryState(Check check) {
        Host host = Host.of(new Asm(0, 0, 1).load(5).put("a").get("nobody").op(Asm.RETURN));
        check.due("before STORE", host.global("a"), "nothing");
        host.run(2);
        check.due("behind STORE", host.global("a"), "5");
        host.run(1);
        check.due("ended by an exception", host.global("a"), "5");
        host.x.again();
        check.due("at its beginning again", host.global("a"), "5");
        host.read(Samples.NO_CODE);
        check.due("behind a refused read", host.global("a"), "5");
        host.read(Samples.endless());
        check.due("behind a good read", host.global("a"), "5");
    }
}
