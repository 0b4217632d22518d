import java.math.BigInteger;

/** Promises 3 and 4, the BYTES: which tapes are a CODE, and the first byte that can't be there. */
public final class ReadTest {
    private static final Check CHECK = new Check("ReadTest");
    private static final int[] BEFORE_CONSTANT = {99, 0, 0, 1, 4, 0, 100, 0, 83, 0, 1};
    private static final int START = BEFORE_CONSTANT.length;

    public static void main(String[] args) {
        everyCut();
        headOfCode();
        namesOfCode();
        trailing();
        shortNumbers();
        longNumbers();
        tuples();
        singles();
        depth();
        whatStays();
        whenTheTapeIsEmptied();
        CHECK.end();
    }

    private static String fault(int at) {
        return "IllegalArgumentException " + at;
    }

    private static void read(String what, String want, int... bytes) {
        CHECK.due(what, new Host().read(bytes), want);
    }

    /** The object as the CODE's only constant, with no names behind it. */
    private static void constant(String what, String want, int... object) {
        read(what, want, Asm.join(BEFORE_CONSTANT, object, new int[] {0}));
    }

    private static int[] cut(int[] bytes, int length) {
        return java.util.Arrays.copyOf(bytes, length);
    }

    private static int[] with(int[] bytes, int at, int value) {
        int[] changed = bytes.clone();
        changed[at] = value;
        return changed;
    }

    private static int[] sample() {
        int[] inner = new Asm(1, 2, 3).op(Asm.LOCAL, 0).op(Asm.RETURN).bytes();
        int[] tuple = Asm.tuple(Asm.none(), Asm.no(), Asm.yes(), Asm.number(-7),
                Asm.number(BigInteger.ONE.shiftLeft(100).negate()), Asm.tuple(), inner);
        return new Asm(0, 0, 1).load(tuple).op(Asm.RETURN).constant(inner)
                .name("a").name("zzzzzzzz").bytes();
    }

    private static void everyCut() {
        int[] whole = sample();
        read("the sample", "fine", whole);
        for (int length = 0; length < whole.length; length++) {
            read("its first " + length, fault(length), cut(whole, length));
            Host host = new Host();
            host.read(whole);
            CHECK.due("its first " + length + " behind it", host.read(cut(whole, length)), fault(length));
        }
    }

    private static void headOfCode() {
        int[] code = {99, 0, 0, 1, 4, 0, 100, 0, 83, 0, 1, 78, 0};
        read("the plainest one", "fine", code);
        for (int other : new int[] {0, 40, 78, 98, 100, 105, 108, 255}) {
            read("no CODE: " + other, fault(0), with(code, 0, other));
        }
        read("5 arguments", fault(1), with(code, 1, 5));
        read("255 arguments", fault(1), with(code, 1, 255));
        read("fewer locals than arguments", fault(2), with(with(code, 1, 4), 2, 3));
        read("4 of each", "fine", with(with(code, 1, 4), 2, 4));
        read("8 locals", "fine", with(code, 2, 8));
        read("9 locals", fault(2), with(code, 2, 9));
        read("no stack", fault(3), with(code, 3, 0));
        read("stack of 10", "fine", with(code, 3, 10));
        read("stack of 11", fault(3), with(code, 3, 11));
        for (int count : new int[] {0, 1, 3, 161, 162, 254, 255}) {
            read(count + " bytes of instructions", fault(4), with(code, 4, count));
        }
        read("4 + 256 bytes of instructions", fault(5), with(code, 5, 1));
        read("4 + 65280 bytes of instructions", fault(5), with(code, 5, 255));
        read("13 constants", fault(10), with(code, 10, 13));
        read("no such object", fault(11), with(code, 11, 79));
        Asm longest = new Asm(0, 0, 1).load(Asm.none()).op(Asm.RETURN);
        while (longest.place() < 160) {
            longest.op(0);
        }
        read("160 bytes of instructions", "fine", longest.bytes());
        read("162 bytes of instructions", fault(4), longest.op(0).bytes());
        Asm twelve = new Asm(0, 0, 1).load(Asm.none()).op(Asm.RETURN);
        for (int i = 1; i < 12; i++) {
            twelve.constant(Asm.number(i));
        }
        read("12 constants", "fine", twelve.bytes());
    }

    private static void namesOfCode() {
        Asm twelve = new Asm(0, 0, 1).load(Asm.none()).op(Asm.RETURN);
        for (int i = 0; i < 12; i++) {
            twelve.name("same");
        }
        read("12 names", "fine", twelve.bytes());
        read("13 names", fault(12), twelve.name("more").bytes());
        int[] head = {99, 0, 0, 1, 4, 0, 100, 0, 83, 0, 1, 78};
        read("a name without letters", fault(13), Asm.join(head, new int[] {1, 0, 97}));
        read("a name of 9", fault(13), Asm.join(head, new int[] {1, 9, 97, 97, 97, 97, 97, 97, 97, 97, 97}));
        read("a name of 8", "fine", Asm.join(head, new int[] {1, 8, 97, 97, 97, 97, 97, 97, 97, 122}));
        for (int letter : new int[] {0, 65, 96, 123, 255}) {
            read("letter " + letter, fault(15), Asm.join(head, new int[] {1, 3, 97, letter, 97}));
        }
    }

    private static void trailing() {
        int[] whole = sample();
        read("one byte more", fault(whole.length), Asm.join(whole, new int[] {0}));
        read("another CODE behind it", fault(whole.length), Asm.join(whole, whole));
        int[] bad = new Asm(0, 0, 1).op(0).bytes();
        read("more bytes come before a CODE that is not as it must be", fault(bad.length),
                Asm.join(bad, new int[] {7}));
    }

    private static void shortNumbers() {
        Host host = new Host();
        for (long value : new long[] {0, 1, -1, 255, 256, 32767, 32768, -32768, Integer.MAX_VALUE,
                Integer.MIN_VALUE, 1 << 30, -(1 << 30)}) {
            CHECK.due("the number " + value,
                    host.ending(new Asm(0, 0, 1).load(value).op(Asm.RETURN)), "" + value);
        }
        host.ending(new Asm(0, 0, 1).load(0).op(Asm.RETURN));
        CHECK.due("0 has no digits", host.x.result(2), 0);
        CHECK.due("0 is not below 0", host.x.result(1), 0);
    }

    private static void longNumbers() {
        Host host = new Host();
        BigInteger most = BigInteger.ONE.shiftLeft(240).subtract(BigInteger.ONE);
        for (BigInteger value : new BigInteger[] {BigInteger.ZERO, BigInteger.ONE, most, most.negate(),
                BigInteger.ONE.shiftLeft(225), BigInteger.valueOf(-32768), BigInteger.valueOf(256)}) {
            CHECK.due("the number " + value,
                    host.ending(new Asm(0, 0, 1).load(Asm.number(value)).op(Asm.RETURN)), "" + value);
        }
        constant("n is 0", "fine", 108, 0, 0);
        constant("n is 0 and 255 * 256", fault(START + 2), 108, 0, 255);
        constant("n is 17", fault(START + 1), 108, 17, 0);
        constant("n is -17", fault(START + 1), 108, 239, 255);
        constant("n is 16 and 256", fault(START + 2), 108, 16, 1);
        constant("n is 240", fault(START + 2), 108, 240, 0);
        constant("n is 1 - 256", fault(START + 2), 108, 1, 255);
        constant("n is -1", "fine", 108, 255, 255, 1, 0);
        constant("the highest digit is 0", fault(START + 4), 108, 1, 0, 0, 0);
        constant("the highest digit is 256", "fine", 108, 1, 0, 0, 1);
        constant("a digit of 32767", "fine", 108, 1, 0, 255, 127);
        constant("a digit of 32768", fault(START + 4), 108, 1, 0, 0, 128);
        constant("a lower digit of 65535", fault(START + 4), 108, 2, 0, 255, 255, 1, 0);
        constant("a lower digit of 0", "fine", 108, 2, 0, 0, 0, 1, 0);
        constant("the highest of two digits is 0", fault(START + 6), 108, 254, 255, 1, 0, 0, 0);
        constant("n's bytes are no object", fault(START + 3), 40, 2, 108, 78, 78);
        constant("17 digits", fault(START + 1), Asm.number(BigInteger.ONE.shiftLeft(240)));
    }

    private static void tuples() {
        int[][] twelve = new int[12][];
        for (int i = 0; i < 12; i++) {
            twelve[i] = Asm.number(i);
        }
        CHECK.due("a tuple of 12", new Host().ending(
                new Asm(0, 0, 1).load(Asm.tuple(twelve)).op(Asm.RETURN)), "(0,1,2,3,4,5,6,7,8,9,10,11)");
        constant("an empty one", "fine", 40, 0);
        constant("a tuple of 13", fault(START + 1), 40, 13, 78);
        constant("a wrong one in it", fault(START + 3), 40, 2, 78, 1);
    }

    private static void singles() {
        int[] all = Asm.tuple(Asm.none(), Asm.no(), Asm.yes());
        CHECK.due("NONE, FALSE, TRUE",
                new Host().ending(new Asm(0, 0, 1).load(all).op(Asm.RETURN)), "(NONE,FALSE,TRUE)");
        for (int first = 0; first < 256; first++) {
            boolean known = first == 78 || first == 70 || first == 84 || first == 105 || first == 108
                    || first == 40 || first == 99;
            if (!known) {
                constant("an object that begins with " + first, fault(START), first, 0, 0, 0, 0);
            }
        }
    }

    private static int[] nested(int[] innermost, int tuples) {
        int[] object = innermost;
        for (int i = 0; i < tuples; i++) {
            object = Asm.tuple(object);
        }
        return object;
    }

    /** The CODE itself is the first of the five. */
    private static void depth() {
        constant("CODE, 3 tuples, a number", "fine", nested(Asm.number(1), 3));
        constant("CODE, 4 tuples", "fine", nested(Asm.tuple(), 3));
        constant("CODE, 4 tuples, a number", fault(START + 8), nested(Asm.number(1), 4));
        constant("CODE, 5 tuples", fault(START + 8), nested(Asm.tuple(), 4));
        constant("one that is not so deep behind it", fault(START + 8),
                Asm.tuple(Asm.tuple(Asm.tuple(Asm.tuple(Asm.none()), Asm.none()))));
        int[] code = new Asm(0, 0, 1).load(Asm.none()).op(Asm.RETURN).bytes();
        int[] flat = new Asm(0, 0, 1).get("x").op(Asm.RETURN).bytes();
        read("4 CODEs with a constant", "fine", wrapped(code, 3));
        read("5 CODEs without one", "fine", wrapped(flat, 4));
        read("5 CODEs with a constant", fault(4 * START + 11), wrapped(code, 4));
        read("6 CODEs", fault(5 * START), wrapped(flat, 5));
        constant("a CODE in tuples", "fine", nested(flat, 3));
        constant("a CODE in too many tuples", fault(START + 8), nested(flat, 4));
    }

    private static int[] wrapped(int[] innermost, int times) {
        int[] code = innermost;
        for (int i = 0; i < times; i++) {
            code = new Asm(0, 0, 1).load(code).op(Asm.RETURN).bytes();
        }
        return code;
    }

    private static void whatStays() {
        Host host = new Host();
        CHECK.due("read", host.read(new Asm(0, 1, 3).load(7).op(Asm.DUP).op(Asm.SET, 0).op(Asm.DUP)
                .put("kept").op(Asm.RETURN)), "fine");
        CHECK.due("run", host.run(4), "4");
        CHECK.due("no CODE", host.read(99, 9), fault(1));
        CHECK.due("fault()", host.x.fault(), 1);
        CHECK.due("not as it must be", host.read(new Asm(0, 0, 1).op(0)), "IllegalStateException 0");
        CHECK.due("place", host.x.about(2), 8);
        CHECK.due("count", host.x.about(6), 4);
        CHECK.due("stack", host.stack(0), "7");
        CHECK.due("local", host.local(0), "7");
        CHECK.due("it goes on", host.run(200), "2");
        CHECK.due("its end", host.result(), "7");
        CHECK.due("a wrong read at its end", host.read(), fault(0));
        CHECK.due("its end again", host.result(), "7");
        CHECK.due("a good read", host.read(new Asm(0, 0, 1).get("kept").op(Asm.RETURN)), "fine");
        CHECK.due("fault() of a good read", host.x.fault(), -1);
        CHECK.due("at its beginning", host.x.about(6), 0);
        CHECK.due("under way", host.x.about(0), 1);
        CHECK.due("no result any more", host.result(), "nothing");
        CHECK.due("locals are unset", host.local(0), "nothing");
        CHECK.due("names stay", host.global("kept"), "7");
        CHECK.due("run", host.run(200), "2");
        CHECK.due("by its name", host.result(), "7");
    }

    private static void whenTheTapeIsEmptied() {
        Host host = new Host();
        CHECK.due("wrong", host.read(1, 2, 3), fault(0));
        CHECK.due("length", host.x.feed(0, 2), 2);
        CHECK.due("wrong", host.read(), fault(0));
        CHECK.due("not as it must be", host.read(new Asm(0, 0, 1).op(0)), "IllegalStateException 0");
        CHECK.due("length", host.x.feed(99, 1), 1);
        CHECK.due("cut off", host.read(), fault(1));
        CHECK.due("good", host.read(sample()), "fine");
        CHECK.due("length", host.x.feed(0, 4), 4);
    }
}
