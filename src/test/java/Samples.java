import java.math.BigInteger;
import java.util.ArrayList;
import java.util.List;

/** CODEs and tapes that several tests use. */
final class Samples {
    static final BigInteger MOST = BigInteger.ONE.shiftLeft(240).subtract(BigInteger.ONE);

    /** No CODE, with its fault at byte 1. */
    static final int[] NO_CODE = {99, 5};

    /** A CODE with an instruction that is none. */
    static final int[] NOT_AS_IT_MUST_BE = new Asm(0, 0, 1).op(0).bytes();

    /** The function that gives its one argument back. */
    static final int[] SAME = new Asm(1, 1, 1).op(Asm.LOCAL, 0).op(Asm.RETURN).bytes();

    private static final int LONGEST_NUMBER = 35;

    private Samples() {
    }

    /** The shortest CODE of all: GO TO 0. */
    static Asm endless() {
        return new Asm(0, 0, 1).op(Asm.GO_TO, 0);
    }

    static Asm returns(long number) {
        return new Asm(0, 0, 1).load(number).op(Asm.RETURN);
    }

    /** Ends by KIND 4. */
    static Asm raises() {
        return new Asm(0, 0, 1).get("nobody").op(Asm.RETURN);
    }

    /** A good CODE of so many bytes, 790 or so: numbers in tuples fill it up. */
    static int[] ofLength(int length) {
        Asm code = new Asm(0, 0, 1).load(Asm.none()).op(Asm.RETURN);
        while (code.place() < 160) {
            code.op(0);
        }
        code.constant(tupleOfLength(2 + 12 * LONGEST_NUMBER));
        return code.constant(tupleOfLength(length - code.bytes().length)).bytes();
    }

    /** NONE has one byte, a long number 3 and 2 more for each digit: any odd count up to 35. */
    private static int[] tupleOfLength(int length) {
        List<int[]> objects = new ArrayList<>();
        int left = length - 2;
        while (left > 0) {
            int size = Math.min(LONGEST_NUMBER, left % 2 == 0 ? left - 1 : left);
            int digits = (size - 3) / 2;
            objects.add(size == 1 ? Asm.none() : digits == 0 ? Asm.number(BigInteger.ZERO)
                    : Asm.number(BigInteger.ONE.shiftLeft(15 * digits - 1)));
            left -= size;
        }
        return Asm.tuple(objects.toArray(new int[0][]));
    }

    /** The innermost in so many tuples of one. */
    static int[] nested(int[] innermost, int tuples) {
        int[] object = innermost;
        for (int i = 0; i < tuples; i++) {
            object = Asm.tuple(object);
        }
        return object;
    }

    static int[] nones(int count) {
        int[][] objects = new int[count][];
        for (int i = 0; i < count; i++) {
            objects[i] = Asm.none();
        }
        return Asm.tuple(objects);
    }

    /** Calls RANGE with these numbers. */
    static Asm range(Asm code, long... bounds) {
        code.get("range");
        for (long each : bounds) {
            code.load(each);
        }
        return code.op(Asm.CALL, bounds.length);
    }

    /**
     * f(n): the tail if n is 0, else f(n - 1); so the tail runs with n + 2 frames. The tail's
     * constant 0 is the number 1, and its names are f and those that it adds.
     */
    static Asm recursion(int n, Asm function) {
        return new Asm(0, 0, 5).load(function.bytes()).op(Asm.FUNCTION).put("f").get("f").load(n)
                .op(Asm.CALL, 1).op(Asm.RETURN);
    }

    /** What comes before the tail. */
    static Asm untilZero() {
        return new Asm(1, 1, 5).op(Asm.LOCAL, 0).op(Asm.GO_IF_FALSE, 16).get("f").op(Asm.LOCAL, 0)
                .load(1).op(Asm.SUB).op(Asm.CALL, 1).op(Asm.RETURN);
    }
}
