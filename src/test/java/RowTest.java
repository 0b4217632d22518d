import java.math.BigInteger;
import java.util.function.IntUnaryOperator;

/** Promises 8 to 11: the ROWs of the result, the stack, the locals and what is stored. */
public final class RowTest {
    private static final Check CHECK = new Check("RowTest");
    private static final int[] FUNCTION = new Asm(3, 3, 1).op(Asm.LOCAL, 0).op(Asm.RETURN).bytes();

    public static void main(String[] args) {
        everyKindOfValue();
        everywhere();
        longRow();
        stacks();
        localsOfFrames();
        namesOfGlobals();
        CHECK.end();
    }

    /** The numbers 0 .. and two behind them, which must be NONE; and some k beyond all rows. */
    private static void row(String what, IntUnaryOperator row, int... numbers) {
        for (int k = 0; k < numbers.length + 2; k++) {
            int want = k < numbers.length ? numbers[k] : -1;
            CHECK.due("number " + k + " of " + what, row.applyAsInt(k), want);
        }
        for (int k : new int[] {Integer.MIN_VALUE, -2, -1, 299, 300, 301, Integer.MAX_VALUE}) {
            CHECK.due("number " + k + " of " + what, row.applyAsInt(k), -1);
        }
    }

    private static void result(Asm code, int... numbers) {
        Host host = new Host();
        String ending = host.ending(code.op(Asm.RETURN));
        row(ending, host.x::result, numbers);
    }

    private static Asm code() {
        return new Asm(0, 1, 5);
    }

    private static void everyKindOfValue() {
        result(code().load(Asm.none()), 0);
        result(code().load(Asm.no()), 1);
        result(code().load(Asm.yes()), 2);
        result(code().load(0), 3, 0, 0);
        result(code().load(5), 3, 0, 1, 5);
        result(code().load(-5), 3, 1, 1, 5);
        result(code().load(32767), 3, 0, 1, 32767);
        result(code().load(32768), 3, 0, 2, 0, 1);
        result(code().load(Integer.MIN_VALUE), 3, 1, 3, 0, 0, 2);
        result(code().load(Asm.number(BigInteger.ONE.shiftLeft(239).negate())),
                3, 1, 16, 0, 0, 0, 0, 0, 0, 0, 0, 0, 0, 0, 0, 0, 0, 0, 16384);
        result(code().load(Asm.tuple()), 4, 0);
        result(code().load(Asm.tuple(Asm.none(), Asm.tuple(Asm.yes(), Asm.number(2)), Asm.no())),
                4, 3, 0, 4, 2, 2, 3, 0, 1, 2, 1);
        result(code().get("range").load(-3).load(9).load(-2).op(Asm.CALL, 3), 5, -3, 9, -2);
        result(code().load(Asm.tuple()).op(Asm.WALK), 6);
        result(code().load(FUNCTION).op(Asm.FUNCTION), 7, 3);
        result(code().get("range"), 8);
        result(code().get("typ"), 9, 0);
        result(code().get("over"), 9, 6);
        result(code().load(FUNCTION), 10, 3);
        result(code().load(FUNCTION).op(Asm.FUNCTION).get("name").get("range").load(FUNCTION)
                .op(Asm.TUPLE, 4), 4, 4, 7, 3, 9, 4, 8, 10, 3);
        result(code().load(7).op(Asm.NEG).op(Asm.NEG), 3, 0, 1, 7);
        result(code().load(7).load(7).op(Asm.SUB), 3, 0, 0);
        result(code().load(Asm.no()).op(Asm.NEG), 3, 0, 0);
    }

    private static void everywhere() {
        Host host = new Host();
        host.read(code().load(-70000).op(Asm.DUP).op(Asm.SET, 0).op(Asm.DUP).put("x").op(Asm.RETURN));
        row("the local before", k -> host.x.local(0, k));
        row("the name before", k -> host.x.global(Host.packed("x"), k));
        row("the stack before", k -> host.x.stack(0, k));
        host.run(5);
        row("the stack", k -> host.x.stack(0, k), 3, 1, 2, 4464, 2);
        row("the local", k -> host.x.local(0, k), 3, 1, 2, 4464, 2);
        row("the name", k -> host.x.global(Host.packed("x"), k), 3, 1, 2, 4464, 2);
        row("no result yet", host.x::result);
        host.run(1);
        row("the result", host.x::result, 3, 1, 2, 4464, 2);
        row("no stack any more", k -> host.x.stack(0, k));
        row("no local any more", k -> host.x.local(0, k));
        row("the name at the end", k -> host.x.global(Host.packed("x"), k), 3, 1, 2, 4464, 2);
    }

    /** 12 tuples of 12 numbers, each with 4 in its row: 2 + 12 * (2 + 48) are more than 300. */
    private static void longRow() {
        int[][] twelve = new int[12][];
        for (int i = 0; i < 12; i++) {
            twelve[i] = Asm.number(100 + i);
        }
        Asm code = new Asm(0, 0, 10).load(Asm.tuple(twelve)).op(Asm.DUP).op(Asm.DUP).op(Asm.TUPLE, 3)
                .op(Asm.DUP).op(Asm.ADD).op(Asm.DUP).op(Asm.ADD).op(Asm.RETURN);
        Host host = new Host();
        host.read(code);
        host.run(200);
        CHECK.due("how many", host.x.result(1), 12);
        for (int k = 2; k < 300; k++) {
            int within = (k - 2) % 50;
            int part = (within - 2) % 4;
            int item = 100 + (within - 2) / 4;
            int want = within == 0 ? 4 : within == 1 ? 12 : part == 0 ? 3 : part == 1 ? 0 : part == 2 ? 1 : item;
            CHECK.due("number " + k, host.x.result(k), want);
        }
        CHECK.due("number 300", host.x.result(300), -1);
    }

    private static void stacks() {
        Host host = new Host();
        host.read(code().load(1).load(2).load(3).op(Asm.POP).op(Asm.RETURN));
        host.run(3);
        String[] want = {"3", "2", "1", "nothing"};
        for (int i = 0; i < want.length; i++) {
            CHECK.due("stack " + i, host.stack(i), want[i]);
        }
        for (int i : new int[] {Integer.MIN_VALUE, -1, 5, 10, Integer.MAX_VALUE}) {
            CHECK.due("stack " + i, host.stack(i), "nothing");
        }
        host.run(1);
        CHECK.due("stack 0 behind POP", host.stack(0), "2");
        CHECK.due("stack 2 behind POP", host.stack(2), "nothing");
    }

    private static void localsOfFrames() {
        int[] function = new Asm(2, 3, 2).op(Asm.LOCAL, 1).op(Asm.SET, 2).op(Asm.LOCAL, 0).op(Asm.RETURN)
                .bytes();
        Host host = new Host();
        host.read(new Asm(0, 8, 5).load(7).op(Asm.SET, 7).load(function).op(Asm.FUNCTION).load(1).load(2)
                .op(Asm.CALL, 2).op(Asm.RETURN));
        host.run(2);
        CHECK.due("local 7", host.local(7), "7");
        for (int i : new int[] {Integer.MIN_VALUE, -1, 0, 6, 8, Integer.MAX_VALUE}) {
            CHECK.due("local " + i, host.local(i), "nothing");
        }
        host.run(5);
        CHECK.due("argument 0", host.local(0), "1");
        CHECK.due("argument 1", host.local(1), "2");
        CHECK.due("the unset one", host.local(2), "nothing");
        CHECK.due("none of the other frame", host.local(7), "nothing");
        CHECK.due("an empty stack", host.stack(0), "nothing");
        host.run(2);
        CHECK.due("the set one", host.local(2), "2");
        host.run(2);
        CHECK.due("the first frame's again", host.local(7), "7");
        CHECK.due("the result on its stack", host.stack(0), "1");
    }

    private static void namesOfGlobals() {
        Host host = new Host();
        host.ending(code().load(1).put("a").load(2).put("abcdefgh").load(3).put("range")
                .load(4).put("ba").load(0).op(Asm.RETURN));
        CHECK.due("a", host.x.global('a', 3), 1);
        CHECK.due("a with 0 behind it", host.x.global((long) 'a' << 56, 3), 1);
        CHECK.due("a with 0 on both sides", host.x.global((long) 'a' << 24, 3), 1);
        CHECK.due("abcdefgh", host.x.global(Host.packed("abcdefgh"), 3), 2);
        CHECK.due("range", host.x.global(Host.packed("range"), 3), 3);
        CHECK.due("ba", host.x.global(Host.packed("ba"), 3), 4);
        CHECK.due("b and a with 0 between them", host.x.global(0x6200000061000000L, 3), 4);
        for (long other : new long[] {0, -1, 'b', 'A', 1, Long.MIN_VALUE, Host.packed("ab"),
                Host.packed("zero"), Host.packed("aa"), Host.packed("abcdefg"), 0xFF00000000000061L}) {
            CHECK.due("the name " + other, host.x.global(other, 0), -1);
        }
    }
}
