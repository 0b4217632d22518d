import java.util.Arrays;

/** The boundaries of promise 4: none, the first byte, the last one, the length, and the CODE's number. */
public final class Promise04FaultTest {
    public static void main(String[] args) throws ReflectiveOperationException {
        Cases.of(Promise04FaultTest.class);
    }

    private static int faultOf(int... bytes) {
        Host host = new Host();
        host.read(bytes);
        return host.x.fault();
    }

    static void promise4_noneBeforeTheFirstRead(Check check) {
        Host host = new Host();
        check.due("fault()", host.x.fault(), -1);
        host.feedAll(1, 2, 3);
        check.due("with bytes on the tape", host.x.fault(), -1);
    }

    static void promise4_noneIfTheLatestHadNone(Check check) {
        Host host = Host.of(Samples.endless());
        check.due("behind a good read", host.x.fault(), -1);
        host.read(Samples.NO_CODE);
        check.due("behind one of no CODE", host.x.fault(), 1);
        host.read(Samples.endless());
        check.due("behind a good one again", host.x.fault(), -1);
        host.read(Samples.NOT_AS_IT_MUST_BE);
        check.due("behind one that is not as it must be", host.x.fault(), 0);
        host.read(Samples.endless());
        check.due("behind a good one again", host.x.fault(), -1);
    }

    static void promise4_latestReadAlone(Check check) {
        Host host = new Host();
        host.read(99, 0, 0, 11);
        check.due("the first", host.x.fault(), 3);
        host.read(99, 5);
        check.due("the second", host.x.fault(), 1);
        host.read();
        check.due("the third, of an empty tape", host.x.fault(), 0);
    }

    static void promise4_otherCallsLeaveIt(Check check) {
        Host host = Host.of(Samples.endless());
        host.read(Samples.NO_CODE);
        host.feedAll(99, 0, 0);
        host.x.feed(1, 9);
        host.run(5);
        host.run(0);
        host.x.again();
        check.due("fault()", host.x.fault(), 1);
        check.due("fault() again", host.x.fault(), 1);
    }

    static void promise4_firstByte(Check check) {
        check.due("98 at first", faultOf(98, 0, 0, 1), 0);
        check.due("100 at first", faultOf(100), 0);
        check.due("an object that is no CODE", faultOf(78), 0);
        check.due("99 at first, then a wrong one", faultOf(99, 5, 0, 1), 1);
    }

    static void promise4_lastByte(Check check) {
        int[] bytes = Samples.endless().bytes();
        bytes[9] = 13;
        check.due("13 names told by the last byte", faultOf(bytes), 9);
        bytes[9] = 12;
        check.due("12 names told by the last byte, none there", faultOf(bytes), 10);
        int[] named = Samples.endless().name("ab").bytes();
        named[named.length - 1] = 'A';
        check.due("a last letter that is none", faultOf(named), named.length - 1);
    }

    static void promise4_tapesLength(Check check) {
        int[] whole = new Asm(1, 2, 3).load(-5).op(Asm.RETURN).constant(Asm.number(1L << 40))
                .constant(Asm.tuple(Asm.none(), Samples.SAME)).name("a").name("zzzzzzzz").bytes();
        check.due("the whole", faultOf(whole), -1);
        for (int length = 0; length < whole.length; length++) {
            check.due("its first " + length, faultOf(Arrays.copyOf(whole, length)), length);
        }
    }

    static void promise4_tapesLength_ofAFullTape(Check check) {
        check.due("cut at 800", faultOf(Arrays.copyOf(Samples.ofLength(801), 800)), 800);
        check.due("cut at 799", faultOf(Arrays.copyOf(Samples.ofLength(800), 799)), 799);
    }

    static void promise4_byteBehindTheCode(Check check) {
        check.due("a byte more", faultOf(Asm.join(Samples.endless().bytes(), new int[] {0})), 10);
        check.due("a CODE more", faultOf(Asm.join(Samples.endless().bytes(), Samples.endless().bytes())), 10);
        check.due("the last of 800", faultOf(Asm.join(Samples.ofLength(799), new int[] {0})), 799);
    }

    static void promise4_theFirstOfSeveral(Check check) {
        check.due("ARGUMENTS and STACK", faultOf(99, 5, 0, 11), 1);
        check.due("LOCALS and STACK", faultOf(99, 4, 3, 0), 2);
        check.due("STACK, and cut", faultOf(99, 4, 4, 0), 3);
    }

    /** A count's lower byte stands first: it can't be there if no upper one would do. */
    static void promise4_countOfTwoBytes(Check check) {
        check.due("3 bytes of instructions", faultOf(99, 0, 0, 1, 3, 0), 4);
        check.due("3 + 256", faultOf(99, 0, 0, 1, 3, 1), 4);
        check.due("2 + 256", faultOf(99, 0, 0, 1, 2, 1), 5);
        check.due("17 digits", faultOf(99, 0, 0, 1, 2, 0, 113, 0, 1, 108, 17, 0), 10);
        check.due("16 + 256 digits", faultOf(99, 0, 0, 1, 2, 0, 113, 0, 1, 108, 16, 1), 11);
        check.due("-16 - 256 digits", faultOf(99, 0, 0, 1, 2, 0, 113, 0, 1, 108, 240, 254), 11);
    }

    private static Asm outer(Asm code, int[]... constants) {
        for (int[] each : constants) {
            code.constant(each);
        }
        return code;
    }

    static void promise4_codeNumber0(Check check) {
        check.due("one alone", faultOf(Samples.NOT_AS_IT_MUST_BE), 0);
        check.due("the first of two in one", faultOf(outer(Samples.endless(),
                Samples.NOT_AS_IT_MUST_BE, Samples.SAME).bytes()), 0);
        check.due("the innermost of three", faultOf(outer(Samples.endless(),
                outer(Samples.endless(), Samples.NOT_AS_IT_MUST_BE).bytes()).bytes()), 0);
    }

    static void promise4_codeNumber1(Check check) {
        check.due("the outer of two", faultOf(outer(new Asm(0, 0, 1).op(0), Samples.SAME).bytes()), 1000);
        check.due("the second of two in one", faultOf(outer(Samples.endless(),
                Samples.SAME, Samples.NOT_AS_IT_MUST_BE).bytes()), 1000);
        check.due("the middle one of three", faultOf(outer(Samples.endless(),
                outer(new Asm(0, 0, 1).op(0), Samples.SAME).bytes()).bytes()), 1000);
    }

    static void promise4_codeNumber_theFirstOfSeveral(Check check) {
        check.due("both", faultOf(outer(new Asm(0, 0, 1).op(0), Samples.NOT_AS_IT_MUST_BE).bytes()), 0);
        check.due("the last two of three", faultOf(outer(new Asm(0, 0, 1).op(0), Samples.SAME,
                Samples.NOT_AS_IT_MUST_BE).bytes()), 1000);
    }

    static void promise4_codeNumber_inTuples(Check check) {
        int[] tuple = Asm.tuple(Samples.SAME, Asm.none(), Asm.tuple(Samples.NOT_AS_IT_MUST_BE));
        check.due("behind one that is as it must be", faultOf(outer(Samples.endless(), tuple).bytes()), 1000);
        check.due("behind two", faultOf(outer(Samples.endless(), Samples.SAME, tuple).bytes()), 2000);
    }

    /** Six tuples of twelve CODEs of ten bytes: as many as the tape has room for, nearly. */
    static void promise4_codeNumber_ofTheLastOfMany(Check check) {
        int[][] twelve = new int[12][];
        Arrays.fill(twelve, Samples.endless().bytes());
        int[] dozen = Asm.tuple(twelve);
        Asm good = outer(Samples.endless(), dozen, dozen, dozen, dozen, dozen, dozen);
        check.due("73 good ones", faultOf(good.bytes()), -1);
        Asm bad = outer(new Asm(0, 0, 1).op(0), dozen, dozen, dozen, dozen, dozen, dozen);
        check.due("the last of 73", faultOf(bad.bytes()), 72000);
        twelve[11] = Samples.NOT_AS_IT_MUST_BE;
        check.due("the last but one", faultOf(outer(Samples.endless(), dozen, dozen, dozen, dozen, dozen,
                Asm.tuple(twelve)).bytes()), 71000);
    }
}
