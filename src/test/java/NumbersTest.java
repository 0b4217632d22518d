import java.math.BigInteger;
import java.util.LinkedHashSet;
import java.util.List;
import java.util.Random;
import java.util.Set;

/** Promise 5, the arithmetic of numbers, against BigInteger; the seed is fixed. */
public final class NumbersTest {
    private static final Check CHECK = new Check("NumbersTest");
    private static final BigInteger ONE = BigInteger.ONE;
    private static final Random RANDOM = new Random(20261115);

    private static Host shared = new Host();
    private static int uses;

    public static void main(String[] args) {
        Set<BigInteger> edges = edges();
        for (BigInteger left : edges) {
            negation(left);
            for (BigInteger right : edges) {
                all(left, right);
            }
        }
        for (int i = 0; i < 3000; i++) {
            all(random(), random());
        }
        for (int i = 0; i < 1500; i++) {
            nearProduct(random(), random());
        }
        mixed();
        CHECK.end();
    }

    private static Set<BigInteger> edges() {
        Set<BigInteger> edges = new LinkedHashSet<>(List.of(BigInteger.ZERO));
        for (int bits : new int[] {0, 1, 14, 15, 16, 30, 31, 119, 120, 121, 224, 225, 239, 240}) {
            for (int more = -1; more <= 1; more++) {
                BigInteger edge = ONE.shiftLeft(bits).add(BigInteger.valueOf(more));
                if (edge.abs().bitLength() <= 240) {
                    edges.add(edge);
                    edges.add(edge.negate());
                }
            }
        }
        return edges;
    }

    /** Of all sizes, with long runs of the same bits, where carries and guesses go wrong. */
    private static BigInteger random() {
        int bits = RANDOM.nextInt(241);
        BigInteger value = new BigInteger(bits, RANDOM);
        int from = RANDOM.nextInt(241);
        int to = Math.min(240, from + RANDOM.nextInt(80));
        for (int i = from; i < to; i++) {
            value = RANDOM.nextInt(20) > 0 ? value.setBit(i) : value.clearBit(i);
        }
        return RANDOM.nextBoolean() ? value : value.negate();
    }

    /** One serves several, so that what an earlier calculation left behind would be seen. */
    private static Host host() {
        if (uses == 8) {
            shared = new Host();
            uses = 0;
        }
        uses++;
        return shared;
    }

    private static BigInteger floorDiv(BigInteger left, BigInteger right) {
        BigInteger[] parts = left.divideAndRemainder(right);
        boolean down = parts[1].signum() != 0 && left.signum() != right.signum();
        return down ? parts[0].subtract(ONE) : parts[0];
    }

    private static String number(BigInteger value) {
        return value.abs().bitLength() > 240 ? "OVER" : value.toString();
    }

    private static String calculated(int what, BigInteger left, BigInteger right) {
        boolean byZero = right.signum() == 0;
        switch (what) {
            case Asm.ADD: return number(left.add(right));
            case Asm.SUB: return number(left.subtract(right));
            case Asm.MUL: return number(left.multiply(right));
            case Asm.DIV: return byZero ? "ZERO" : number(floorDiv(left, right));
            default: return byZero ? "ZERO" : number(left.subtract(floorDiv(left, right).multiply(right)));
        }
    }

    private static String compared(int how, int order) {
        boolean[] holds = {order < 0, order <= 0, order == 0, order != 0, order > 0, order >= 0};
        return holds[how] ? "TRUE" : "FALSE";
    }

    private static String due(String calculated) {
        return calculated.equals("OVER") ? "KIND6" : calculated.equals("ZERO") ? "KIND1" : calculated;
    }

    /** All operations in one CODE; each stands in a block, whose handler leaves the KIND. */
    private static void all(BigInteger left, BigInteger right) {
        int[] whats = {Asm.ADD, Asm.SUB, Asm.MUL, Asm.DIV, Asm.MOD};
        Asm code = new Asm(0, 2, 10).load(Asm.number(left)).op(Asm.SET, 0).load(Asm.number(right))
                .op(Asm.SET, 1);
        StringBuilder want = new StringBuilder("(");
        for (int what : whats) {
            code.op(Asm.BLOCK, 8).op(Asm.LOCAL, 0).op(Asm.LOCAL, 1).op(what).op(Asm.UNBLOCK);
            want.append(due(calculated(what, left, right))).append(",");
        }
        for (int how = 0; how < 4; how++) {
            code.op(Asm.LOCAL, 0).op(Asm.LOCAL, 1).op(Asm.COMPARE, how);
            want.append(compared(how, left.compareTo(right))).append(how < 3 ? "," : ")");
        }
        code.op(Asm.TUPLE, 9).op(Asm.RETURN);
        CHECK.due(left + " and " + right, host().ending(code), want.toString());
        more(left, right);
    }

    private static void more(BigInteger left, BigInteger right) {
        Asm code = new Asm(0, 0, 3).load(Asm.number(left)).load(Asm.number(right)).op(Asm.COMPARE, 4)
                .op(Asm.CONSTANT, 0).op(Asm.CONSTANT, 1).op(Asm.COMPARE, 5).op(Asm.TUPLE, 2)
                .op(Asm.RETURN);
        int order = left.compareTo(right);
        CHECK.due(left + " > and >= " + right, host().ending(code),
                "(" + compared(4, order) + "," + compared(5, order) + ")");
    }

    /** Products and their neighbours, where a quotient turns. */
    private static void nearProduct(BigInteger left, BigInteger right) {
        BigInteger a = left.shiftRight(RANDOM.nextInt(240));
        BigInteger b = right.shiftRight(Math.max(0, a.bitLength() + right.bitLength() - 239));
        BigInteger product = a.multiply(b).add(BigInteger.valueOf(RANDOM.nextInt(3) - 1));
        if (product.abs().bitLength() <= 240) {
            all(product, b);
        }
    }

    private static void negation(BigInteger value) {
        CHECK.due("NEG " + value, new Host().ending(new Asm(0, 0, 1).load(Asm.number(value))
                .op(Asm.NEG).op(Asm.RETURN)), value.negate().toString());
    }

    /** FALSE and TRUE count as 0 and 1; what is no number raises 0, before all else. */
    private static void mixed() {
        int[][] objects = {Asm.no(), Asm.yes(), Asm.number(0), Asm.number(7), Asm.none(), Asm.tuple()};
        Long[] numbers = {0L, 1L, 0L, 7L, null, null};
        int[][] whats = {{Asm.ADD, 0}, {Asm.SUB, 0}, {Asm.MUL, 0}, {Asm.DIV, 0}, {Asm.MOD, 0},
            {Asm.COMPARE, 0}, {Asm.COMPARE, 1}, {Asm.COMPARE, 4}, {Asm.COMPARE, 5}};
        for (int i = 0; i < objects.length; i++) {
            CHECK.due("NEG of object " + i, new Host().ending(new Asm(0, 0, 1).load(objects[i])
                    .op(Asm.NEG).op(Asm.RETURN)), numbers[i] == null ? "raises 0" : "" + -numbers[i]);
            for (int j = 0; j < objects.length; j++) {
                for (int[] what : whats) {
                    String got = new Host().ending(new Asm(0, 0, 2).load(objects[i]).load(objects[j])
                            .op(what[0], what[1]).op(Asm.RETURN));
                    CHECK.due("objects " + i + ", " + j + " by " + what[0] + " " + what[1], got,
                            mixedDue(i == 5 && j == 5, what, numbers[i], numbers[j]));
                }
            }
        }
    }

    private static String mixedDue(boolean tuples, int[] what, Long left, Long right) {
        if (tuples && what[0] == Asm.ADD) {
            return "()";
        }
        if (left == null || right == null) {
            return "raises 0";
        }
        if (what[0] == Asm.COMPARE) {
            return compared(what[1], left.compareTo(right));
        }
        String text = calculated(what[0], BigInteger.valueOf(left), BigInteger.valueOf(right));
        return text.equals("ZERO") ? "raises 1" : text;
    }
}
