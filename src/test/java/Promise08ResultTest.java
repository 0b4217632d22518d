import java.math.BigInteger;

/** The boundaries of promise 8: k is 0 .. 299, rows that are longer, and the least and most of each ROW. */
public final class Promise08ResultTest {
    public static void main(String[] args) throws ReflectiveOperationException {
        Cases.of(Promise08ResultTest.class);
    }

    private static void row(Check check, Asm code, int... numbers) {
        Host host = new Host();
        String ending = host.ending(code.op(Asm.RETURN));
        for (int k = 0; k < numbers.length; k++) {
            check.due("number " + k + " of " + ending, host.x.result(k), numbers[k]);
        }
        check.due("the number behind the last of " + ending, host.x.result(numbers.length), -1);
        check.due("number 299 of " + ending, host.x.result(299), -1);
    }

    private static Asm code() {
        return new Asm(0, 0, 10);
    }

    private static void none(Check check, String what, Host host) {
        for (int k : new int[] {-1, 0, 1, 2, 299, 300}) {
            check.due("result(" + k + ") " + what, host.x.result(k), -1);
        }
    }

    static void promise8_noValue(Check check) {
        none(check, "without a CODE", new Host());
        Host host = Host.of(Samples.returns(5));
        none(check, "at its beginning", host);
        host.run(1);
        none(check, "one before its end", host);
        host.run(1);
        check.due("at its end", host.result(), "5");
        host.x.again();
        none(check, "at its beginning again", host);
        host.run(2);
        host.read(Samples.endless());
        none(check, "behind the next read", host);
        host = Host.of(new Asm(0, 0, 2).load(1).get("nobody").op(Asm.RETURN));
        host.run(200);
        none(check, "when it ended by an exception", host);
    }

    static void promise8_kTooSmall(Check check) {
        Host host = new Host();
        host.ending(Samples.returns(5));
        check.due("k = 0", host.x.result(0), 3);
        for (int k : new int[] {-1, -2, -300, Integer.MIN_VALUE}) {
            check.due("k = " + k, host.x.result(k), -1);
        }
    }

    static void promise8_kBehindTheRow(Check check) {
        Host host = new Host();
        host.ending(Samples.returns(5));
        check.due("the last", host.x.result(3), 5);
        for (int k : new int[] {4, 5, 298, 299, 300, 301, Integer.MAX_VALUE}) {
            check.due("k = " + k, host.x.result(k), -1);
        }
    }

    /** 2 + (2 + 12 * 19) + (2 + 3 * 19) + (3 + digits): so 6 digits make 300. */
    private static Host longRow(int length) {
        int digits = length - 294;
        int[] longest = Asm.number(Samples.MOST);
        int[][] twelve = new int[12][];
        java.util.Arrays.fill(twelve, longest);
        int[] last = Asm.number(BigInteger.ONE.shiftLeft(15 * digits).subtract(BigInteger.TWO));
        Host host = Host.of(code().load(Asm.tuple(Asm.tuple(twelve), Asm.tuple(longest, longest, longest),
                last)).op(Asm.RETURN));
        host.run(2);
        return host;
    }

    static void promise8_rowOf299_300_301(Check check) {
        for (int length = 299; length <= 303; length++) {
            Host host = longRow(length);
            check.due("how many", host.x.result(1), 3);
            check.due("number 293 of " + length, host.x.result(293), length - 294);
            check.due("number 294 of " + length, host.x.result(294), 32766);
            for (int k = 295; k <= 302; k++) {
                int want = k < Math.min(length, 300) ? 32767 : -1;
                check.due("number " + k + " of " + length, host.x.result(k), want);
            }
        }
    }

    static void promise8_singles(Check check) {
        row(check, code().load(Asm.none()), 0);
        row(check, code().load(Asm.no()), 1);
        row(check, code().load(Asm.yes()), 2);
    }

    static void promise8_number_noDigits(Check check) {
        row(check, code().load(0), 3, 0, 0);
        row(check, code().load(Asm.number(BigInteger.ZERO)), 3, 0, 0);
        row(check, code().load(0).op(Asm.NEG), 3, 0, 0);
        row(check, code().load(-5).load(5).op(Asm.ADD), 3, 0, 0);
        row(check, code().load(-5).load(0).op(Asm.MUL), 3, 0, 0);
        row(check, code().load(0).load(-5).op(Asm.DIV), 3, 0, 0);
        row(check, code().load(-5).load(5).op(Asm.MOD), 3, 0, 0);
        row(check, code().load(5).load(-5).op(Asm.MOD), 3, 0, 0);
    }

    static void promise8_number_sign(Check check) {
        row(check, code().load(1), 3, 0, 1, 1);
        row(check, code().load(-1), 3, 1, 1, 1);
    }

    static void promise8_number_oneDigitAndTwo(Check check) {
        row(check, code().load(32767), 3, 0, 1, 32767);
        row(check, code().load(32768), 3, 0, 2, 0, 1);
        row(check, code().load(-32767), 3, 1, 1, 32767);
        row(check, code().load(-32768), 3, 1, 2, 0, 1);
        row(check, code().load(1073741823), 3, 0, 2, 32767, 32767);
        row(check, code().load(1073741824), 3, 0, 3, 0, 0, 1);
        row(check, code().load(32768).load(1).op(Asm.SUB), 3, 0, 1, 32767);
        row(check, code().load(32767).load(1).op(Asm.ADD), 3, 0, 2, 0, 1);
    }

    static void promise8_number_sixteenDigits(Check check) {
        int[] want = new int[19];
        java.util.Arrays.fill(want, 32767);
        want[0] = 3;
        want[1] = 0;
        want[2] = 16;
        row(check, code().load(Asm.number(Samples.MOST)), want);
        want[1] = 1;
        row(check, code().load(Asm.number(Samples.MOST.negate())), want);
    }

    static void promise8_tuple_emptyAndFull(Check check) {
        row(check, code().load(Asm.tuple()), 4, 0);
        row(check, code().load(Samples.nones(1)), 4, 1, 0);
        row(check, code().load(Samples.nones(12)), 4, 12, 0, 0, 0, 0, 0, 0, 0, 0, 0, 0, 0, 0);
    }

    static void promise8_tuple_fourDeep(Check check) {
        row(check, code().load(Samples.nested(Asm.yes(), 3)).op(Asm.TUPLE, 1), 4, 1, 4, 1, 4, 1, 4, 1, 2);
        row(check, code().load(Samples.nested(Asm.tuple(), 3)), 4, 1, 4, 1, 4, 1, 4, 0);
        row(check, code().load(Samples.nested(Asm.tuple(), 2)).load(7).op(Asm.TUPLE, 2),
                4, 2, 4, 1, 4, 1, 4, 0, 3, 0, 1, 7);
    }

    static void promise8_range_atItsBounds(Check check) {
        row(check, Samples.range(code(), Integer.MIN_VALUE, Integer.MAX_VALUE, -1),
                5, Integer.MIN_VALUE, Integer.MAX_VALUE, -1);
        row(check, Samples.range(code(), -1, -1, -1), 5, -1, -1, -1);
        row(check, Samples.range(code(), 0), 5, 0, 0, 1);
    }

    static void promise8_functionAndCode_leastAndMostArguments(Check check) {
        for (int arguments : new int[] {0, 1, 3, 4}) {
            int[] inner = new Asm(arguments, 4, 1).op(Asm.LOCAL, 0).op(Asm.RETURN).bytes();
            row(check, code().load(inner), 10, arguments);
            row(check, code().load(inner).op(Asm.FUNCTION), 7, arguments);
        }
    }

    static void promise8_walkerAndBuiltOnes(Check check) {
        row(check, code().load(Asm.tuple()).op(Asm.WALK), 6);
        row(check, code().get("range"), 8);
        row(check, code().get("typ"), 9, 0);
        row(check, code().get("over"), 9, 6);
    }
}
