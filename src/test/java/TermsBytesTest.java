import java.math.BigInteger;

/** The boundaries of the term BYTES: each byte that can be there, and the ones beside it that can't. */
public final class TermsBytesTest {
    private static final int[] BEFORE_CONSTANT = {99, 0, 0, 1, 4, 0, 100, 0, 83, 0, 1};
    private static final int START = BEFORE_CONSTANT.length;
    private static final int[] PLAIN = {99, 0, 0, 1, 4, 0, 100, 0, 83, 0, 1, 78, 0};

    public static void main(String[] args) throws ReflectiveOperationException {
        Cases.of(TermsBytesTest.class);
    }

    private static String fault(int at) {
        return "IllegalArgumentException " + at;
    }

    private static String read(int... bytes) {
        return new Host().read(bytes);
    }

    private static int[] with(int at, int value) {
        int[] changed = PLAIN.clone();
        changed[at] = value;
        return changed;
    }

    /** The object as a CODE's only constant. */
    private static String constant(int... object) {
        return read(Asm.join(BEFORE_CONSTANT, object, new int[] {0}));
    }

    /** The value of it. */
    private static String value(int... object) {
        return new Host().ending(new Asm(0, 0, 1).load(object).op(Asm.RETURN));
    }

    // ---- the head of a CODE ----

    static void bytes_firstOfACode(Check check) {
        check.due("98", read(with(0, 98)), fault(0));
        check.due("99", read(with(0, 99)), "fine");
        check.due("100", read(with(0, 100)), fault(0));
    }

    static void bytes_arguments_0To4(Check check) {
        for (int arguments = 0; arguments <= 4; arguments++) {
            int[] bytes = with(1, arguments);
            bytes[2] = 4;
            check.due(arguments + " arguments", read(bytes), "fine");
        }
        for (int arguments : new int[] {5, 6, 8, 128, 255}) {
            int[] bytes = with(1, arguments);
            bytes[2] = 8;
            check.due(arguments + " arguments", read(bytes), fault(1));
        }
    }

    static void bytes_locals_argumentsTo8(Check check) {
        for (int arguments = 0; arguments <= 4; arguments++) {
            for (int locals = 0; locals <= 10; locals++) {
                int[] bytes = with(1, arguments);
                bytes[2] = locals;
                check.due(arguments + " arguments, " + locals + " locals", read(bytes),
                        locals >= arguments && locals <= 8 ? "fine" : fault(2));
            }
        }
        check.due("255 locals", read(with(2, 255)), fault(2));
    }

    static void bytes_stack_1To10(Check check) {
        for (int stack = 0; stack <= 12; stack++) {
            check.due("a stack of " + stack, read(with(3, stack)), stack >= 1 && stack <= 10 ? "fine" : fault(3));
        }
        check.due("a stack of 255", read(with(3, 255)), fault(3));
    }

    /** So many bytes of instructions: GO TO 0, and what none comes to. */
    private static int[] withInstructions(int count) {
        int[] bytes = new int[count + 8];
        bytes[0] = 99;
        bytes[3] = 1;
        bytes[4] = count & 255;
        bytes[5] = count >> 8;
        bytes[6] = 113;
        return bytes;
    }

    static void bytes_instructions_2To160(Check check) {
        for (int count = 2; count <= 160; count += 2) {
            check.due(count + " bytes", read(withInstructions(count)), "fine");
        }
        for (int count : new int[] {0, 162, 164, 200, 254}) {
            check.due(count + " bytes", read(withInstructions(count)), fault(4));
        }
    }

    static void bytes_instructions_even(Check check) {
        for (int count : new int[] {1, 3, 5, 79, 157, 159, 161, 255}) {
            check.due(count + " bytes", read(withInstructions(count)), fault(4));
        }
    }

    static void bytes_instructions_upperByte(Check check) {
        check.due("256 bytes", read(withInstructions(256)), fault(4));
        check.due("258 bytes", read(withInstructions(258)), fault(5));
        check.due("256 + 160 bytes", read(withInstructions(416)), fault(5));
        check.due("256 + 162 bytes", read(withInstructions(418)), fault(4));
        check.due("upper byte 128", read(with(5, 128)), fault(5));
        check.due("upper byte 255", read(with(5, 255)), fault(5));
    }

    static void bytes_instructions_anyByteWhereNoneComes(Check check) {
        for (int each : new int[] {0, 1, 127, 128, 255}) {
            int[] bytes = withInstructions(4);
            bytes[8] = each;
            bytes[9] = each;
            check.due("two bytes of " + each, read(bytes), "fine");
        }
    }

    static void bytes_constants_0To12(Check check) {
        for (int count = 0; count <= 12; count++) {
            Asm code = Samples.endless();
            for (int i = 0; i < count; i++) {
                code.constant(Asm.none());
            }
            check.due(count + " constants", read(code.bytes()), "fine");
        }
        for (int count : new int[] {13, 14, 128, 255}) {
            check.due(count + " constants", read(with(10, count)), fault(10));
        }
    }

    static void bytes_constants_oneMissing(Check check) {
        check.due("2 constants, one there", read(with(10, 2)), fault(12));
        check.due("no constants, one there", read(with(10, 0)), fault(11));
    }

    static void bytes_names_0To12(Check check) {
        for (int count = 0; count <= 12; count++) {
            Asm code = Samples.endless();
            for (int i = 0; i < count; i++) {
                code.name("a");
            }
            check.due(count + " names", read(code.bytes()), "fine");
        }
        for (int count : new int[] {13, 14, 128, 255}) {
            check.due(count + " names", read(with(12, count)), fault(12));
        }
    }

    static void bytes_name_1To8Letters(Check check) {
        for (int count = 1; count <= 8; count++) {
            check.due(count + " letters", read(Samples.endless().name("abcdefgh".substring(0, count)).bytes()),
                    "fine");
        }
        int[] before = {99, 0, 0, 1, 2, 0, 113, 0, 0, 1};
        for (int count : new int[] {0, 9, 10, 128, 255}) {
            check.due(count + " letters", read(Asm.join(before, new int[] {count, 97, 97, 97, 97, 97, 97, 97,
                97, 97})), fault(10));
        }
    }

    static void bytes_letters_aToZ(Check check) {
        int[] before = {99, 0, 0, 1, 2, 0, 113, 0, 0, 1, 8, 109, 109, 109, 109, 109, 109, 109, 109};
        for (int letter = 0; letter < 256; letter++) {
            for (int at : new int[] {11, 14, 18}) {
                int[] bytes = before.clone();
                bytes[at] = letter;
                check.due("letter " + letter + " at " + at, read(bytes),
                        letter >= 'a' && letter <= 'z' ? "fine" : fault(at));
            }
        }
    }

    // ---- the other objects ----

    static void bytes_firstOfAnObject(Check check) {
        for (int first = 0; first < 256; first++) {
            boolean alone = first == 78 || first == 70 || first == 84;
            boolean longer = first == 105 || first == 108 || first == 40 || first == 99;
            int[] bytes = Asm.join(BEFORE_CONSTANT, new int[] {first});
            check.due("an object's first byte " + first, read(bytes),
                    alone || longer ? fault(START + 1) : fault(START));
        }
    }

    static void bytes_shortNumber_leastAndMost(Check check) {
        check.due("0", value(105, 0, 0, 0, 0), "0");
        check.due("1", value(105, 1, 0, 0, 0), "1");
        check.due("-1", value(105, 255, 255, 255, 255), "-1");
        check.due("2147483647", value(105, 255, 255, 255, 127), "2147483647");
        check.due("-2147483648", value(105, 0, 0, 0, 128), "-2147483648");
        check.due("-2147483647", value(105, 1, 0, 0, 128), "-2147483647");
        check.due("each byte at its place", value(105, 4, 3, 2, 1), "" + 0x01020304);
    }

    static void bytes_shortNumber_cut(Check check) {
        for (int length = 1; length <= 4; length++) {
            int[] bytes = Asm.join(BEFORE_CONSTANT, java.util.Arrays.copyOf(new int[] {105, 1, 1, 1, 1}, length));
            check.due(length + " bytes of it", read(bytes), fault(START + length));
        }
    }

    private static int[] longNumber(int count, int digits) {
        int[] bytes = new int[3 + 2 * digits];
        bytes[0] = 108;
        bytes[1] = count & 255;
        bytes[2] = count >> 8 & 255;
        for (int i = 0; i < digits; i++) {
            bytes[3 + 2 * i] = 1;
        }
        return bytes;
    }

    static void bytes_longNumber_nFromMinus16To16(Check check) {
        for (int n = -16; n <= 16; n++) {
            check.due("n = " + n, constant(longNumber(n, Math.abs(n))), "fine");
        }
        for (int n : new int[] {-128, -18, -17, 17, 18, 127, 128}) {
            check.due("n = " + n, constant(longNumber(n, 20)), fault(START + 1));
        }
    }

    static void bytes_longNumber_nsUpperByte(Check check) {
        for (int n : new int[] {256, 257, 272, 240, 255, -255, -256, -272, -241, 32767 - 255, -32768}) {
            check.due("n = " + n, constant(longNumber(n, 16)), fault(START + 2));
        }
    }

    /** n's bytes are not read as an object, nor as a count of names, if n can't be there. */
    static void bytes_longNumber_nIsNothingElse(Check check) {
        check.due("n as NONE, NONE", constant(40, 3, 108, 78, 78), fault(START + 3));
        check.due("a digit's upper byte as NONE", constant(40, 2, 108, 1, 0, 0, 0), fault(START + 6));
    }

    static void bytes_longNumber_noDigits(Check check) {
        check.due("n = 0", value(108, 0, 0), "0");
        check.due("n = 0, and a digit behind it", constant(108, 0, 0, 1, 0), fault(START + 4));
    }

    static void bytes_longNumber_sign(Check check) {
        check.due("n = 1", value(108, 1, 0, 5, 0), "5");
        check.due("n = -1", value(108, 255, 255, 5, 0), "-5");
    }

    static void bytes_longNumber_digitsTo32767(Check check) {
        check.due("a digit of 32767", value(108, 1, 0, 255, 127), "32767");
        check.due("a digit of 32768", constant(108, 1, 0, 0, 128), fault(START + 4));
        check.due("a digit of 65535", constant(108, 1, 0, 255, 255), fault(START + 4));
        check.due("a lower digit of 32767", value(108, 2, 0, 255, 127, 1, 0), "65535");
        check.due("a lower digit of 32768", constant(108, 2, 0, 0, 128, 1, 0), fault(START + 4));
        check.due("a lower digit of 0", value(108, 2, 0, 0, 0, 1, 0), "32768");
    }

    static void bytes_longNumber_highestDigitNot0(Check check) {
        check.due("of one, 0", constant(108, 1, 0, 0, 0), fault(START + 4));
        check.due("of one, 1", value(108, 1, 0, 1, 0), "1");
        check.due("of one, 255", value(108, 1, 0, 255, 0), "255");
        check.due("of one, 256", value(108, 1, 0, 0, 1), "256");
        check.due("of one below 0, 0", constant(108, 255, 255, 0, 0), fault(START + 4));
        check.due("of two, 0", constant(108, 2, 0, 1, 0, 0, 0), fault(START + 6));
        check.due("of two, 1", value(108, 2, 0, 1, 0, 1, 0), "32769");
        int[] sixteen = longNumber(16, 16);
        sixteen[33] = 0;
        check.due("of sixteen, 0", constant(sixteen), fault(START + 34));
    }

    static void bytes_longNumber_of240Bits(Check check) {
        check.due("the most", value(Asm.number(Samples.MOST)), "" + Samples.MOST);
        check.due("the least", value(Asm.number(Samples.MOST.negate())), "" + Samples.MOST.negate());
        check.due("one more than the most", constant(Asm.number(Samples.MOST.add(BigInteger.ONE))),
                fault(START + 1));
        check.due("one less than the least", constant(Asm.number(Samples.MOST.add(BigInteger.ONE).negate())),
                fault(START + 1));
    }

    static void bytes_tuple_0To12(Check check) {
        for (int count = 0; count <= 12; count++) {
            check.due("a tuple of " + count, constant(Samples.nones(count)), "fine");
        }
        for (int count : new int[] {13, 14, 128, 255}) {
            check.due("a tuple of " + count, constant(40, count, 78, 78), fault(START + 1));
        }
    }

    static void bytes_tuple_oneMissing(Check check) {
        check.due("2 told, one there, a wrong byte", constant(40, 2, 78), fault(START + 3));
        check.due("2 told, one there, cut", read(Asm.join(BEFORE_CONSTANT, new int[] {40, 2, 78})),
                fault(START + 3));
    }

    // ---- how deep ----

    static void bytes_deep_tuples(Check check) {
        check.due("CODE, 3 tuples, NONE", constant(Samples.nested(Asm.none(), 3)), "fine");
        check.due("CODE, 4 tuples", constant(Samples.nested(Asm.tuple(), 3)), "fine");
        check.due("CODE, 4 tuples, NONE", constant(Samples.nested(Asm.none(), 4)), fault(START + 8));
        check.due("CODE, 5 tuples", constant(Samples.nested(Asm.tuple(), 4)), fault(START + 8));
    }

    static void bytes_deep_noneWhereTheSixthWouldBe(Check check) {
        check.due("4 tuples, the innermost of none", constant(40, 1, 40, 1, 40, 1, 40, 0), "fine");
        check.due("4 tuples, the innermost of one that is not there", constant(40, 1, 40, 1, 40, 1, 40, 1),
                fault(START + 8));
    }

    static void bytes_deep_everyObject(Check check) {
        for (int[] each : new int[][] {Asm.none(), Asm.no(), Asm.yes(), Asm.number(1), Asm.number(1L << 40),
                Asm.tuple(), Samples.SAME}) {
            check.due("the fifth, beginning with " + each[0], constant(Samples.nested(each, 3)), "fine");
            check.due("the sixth, beginning with " + each[0], constant(Samples.nested(each, 4)),
                    fault(START + 8));
        }
    }

    private static int[] inCodes(int[] innermost, int times) {
        int[] code = innermost;
        for (int i = 0; i < times; i++) {
            code = Samples.endless().constant(code).bytes();
        }
        return code;
    }

    static void bytes_deep_codes(Check check) {
        check.due("5 CODEs", read(inCodes(Samples.SAME, 4)), "fine");
        check.due("6 CODEs", read(inCodes(Samples.SAME, 5)), fault(5 * 9));
        check.due("4 CODEs and NONE", read(inCodes(Asm.none(), 4)), "fine");
        check.due("5 CODEs and NONE", read(inCodes(Asm.none(), 5)), fault(5 * 9));
    }

    static void bytes_deep_codesAndTuples(Check check) {
        check.due("CODE, tuple, CODE, tuple, NONE",
                read(inCodes(Asm.tuple(inCodes(Asm.tuple(Asm.none()), 1)), 1)), "fine");
        check.due("CODE, tuple, CODE, 2 tuples, NONE",
                read(inCodes(Asm.tuple(inCodes(Samples.nested(Asm.none(), 2), 1)), 1)), fault(9 + 2 + 9 + 4));
        check.due("CODE, 3 tuples, CODE", read(inCodes(Samples.nested(Samples.SAME, 3), 1)), "fine");
        check.due("CODE, 3 tuples, CODE, NONE", read(inCodes(Samples.nested(inCodes(Asm.none(), 1), 3), 1)),
                fault(9 + 6 + 9));
    }

    static void bytes_deep_besideOneAnother(Check check) {
        int[] deep = Samples.nested(Asm.tuple(), 3);
        check.due("twice just deep enough", read(Samples.endless().constant(deep).constant(deep).bytes()), "fine");
        check.due("too deep at last", constant(Asm.tuple(Asm.none(), Asm.tuple(Asm.none(),
                Asm.tuple(Asm.none(), Asm.tuple(Asm.none()))))), fault(START + 2 + 1 + 2 + 1 + 2 + 1 + 2));
    }
}
