import java.math.BigInteger;
import java.util.ArrayList;
import java.util.Arrays;
import java.util.List;

/** Writes a CODE as the bytes of a tape; the static methods write its constants. */
final class Asm {
    static final int POP = 1, SWAP = 2, ROT = 3, DUP = 4, NEG = 11, NOT = 12, MUL = 20, MOD = 22;
    static final int ADD = 23, SUB = 24, ITEM = 25, DIV = 26, WALK = 68, RETURN = 83, UNBLOCK = 87;
    static final int STORE = 90, SPREAD = 92, NEXT = 93, CONSTANT = 100, GLOBAL = 101, TUPLE = 102;
    static final int COMPARE = 107, GO_ON = 110, GO_TO = 113, GO_IF_FALSE = 114, GO_IF_TRUE = 115;
    static final int BLOCK = 122, LOCAL = 124, SET = 125, RAISE = 130, CALL = 131, FUNCTION = 132;
    static final int EXTENDED = 144;

    private static final BigInteger BASE = BigInteger.valueOf(32768);

    private final int arguments;
    private final int locals;
    private final int stack;
    private final List<Integer> instructions = new ArrayList<>();
    private final List<int[]> constants = new ArrayList<>();
    private final List<String> names = new ArrayList<>();

    Asm(int arguments, int locals, int stack) {
        this.arguments = arguments;
        this.locals = locals;
        this.stack = stack;
    }

    Asm op(int what) {
        return op(what, 0);
    }

    Asm op(int what, int a) {
        instructions.add(what);
        instructions.add(a);
        return this;
    }

    Asm ops(int... bytes) {
        for (int each : bytes) {
            instructions.add(each);
        }
        return this;
    }

    /** CONSTANT of the object, which is added to the constants. */
    Asm load(int[] object) {
        constants.add(object);
        return op(CONSTANT, constants.size() - 1);
    }

    Asm load(long number) {
        return load(number(number));
    }

    /** GLOBAL of the name, which is added to the names if it is new. */
    Asm get(String name) {
        return op(GLOBAL, indexOf(name));
    }

    Asm put(String name) {
        return op(STORE, indexOf(name));
    }

    Asm constant(int[] object) {
        constants.add(object);
        return this;
    }

    Asm name(String name) {
        names.add(name);
        return this;
    }

    int place() {
        return instructions.size();
    }

    private int indexOf(String name) {
        if (!names.contains(name)) {
            names.add(name);
        }
        return names.indexOf(name);
    }

    int[] bytes() {
        List<Integer> out = new ArrayList<>(List.of(99, arguments, locals, stack));
        out.add(instructions.size() & 255);
        out.add(instructions.size() >> 8);
        out.addAll(instructions);
        out.add(constants.size());
        for (int[] constant : constants) {
            for (int each : constant) {
                out.add(each);
            }
        }
        out.add(names.size());
        for (String name : names) {
            out.add(name.length());
            for (char letter : name.toCharArray()) {
                out.add((int) letter);
            }
        }
        return out.stream().mapToInt(Integer::intValue).toArray();
    }

    static int[] none() {
        return new int[] {78};
    }

    static int[] no() {
        return new int[] {70};
    }

    static int[] yes() {
        return new int[] {84};
    }

    static int[] number(long value) {
        if (value < Integer.MIN_VALUE || value > Integer.MAX_VALUE) {
            return number(BigInteger.valueOf(value));
        }
        int bits = (int) value;
        return new int[] {105, bits & 255, bits >> 8 & 255, bits >> 16 & 255, bits >> 24 & 255};
    }

    static int[] number(BigInteger value) {
        List<Integer> digits = new ArrayList<>();
        for (BigInteger rest = value.abs(); rest.signum() > 0; rest = rest.divide(BASE)) {
            digits.add(rest.mod(BASE).intValue());
        }
        int count = value.signum() < 0 ? -digits.size() : digits.size();
        int[] out = new int[3 + 2 * digits.size()];
        out[0] = 108;
        out[1] = count & 255;
        out[2] = count >> 8 & 255;
        for (int i = 0; i < digits.size(); i++) {
            out[3 + 2 * i] = digits.get(i) & 255;
            out[4 + 2 * i] = digits.get(i) >> 8;
        }
        return out;
    }

    static int[] tuple(int[]... objects) {
        return join(new int[] {40, objects.length}, join(objects));
    }

    static int[] join(int[]... parts) {
        return Arrays.stream(parts).flatMapToInt(Arrays::stream).toArray();
    }
}
