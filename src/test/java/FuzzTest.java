import java.util.Random;

/**
 * Rules 6, 7 and 13: whatever comes, only the document's exceptions do, and the same calls give the
 * same answers; the seed is fixed.
 */
public final class FuzzTest {
    private static final Check CHECK = new Check("FuzzTest");
    private static final Random RANDOM = new Random(7);
    private static final int[] WHATS = {1, 2, 3, 4, 11, 12, 20, 22, 23, 24, 25, 26, 68, 83, 87, 90, 92,
        93, 100, 101, 102, 107, 110, 113, 114, 115, 122, 124, 125, 130, 131, 132, 144};

    private static int good;
    private static int ended;

    public static void main(String[] args) {
        for (int i = 0; i < 3000; i++) {
            int[][] calls = calls();
            String first = answers(calls);
            CHECK.due("run " + i + " once more", answers(calls), first);
            CHECK.due("run " + i + " throws nothing else", first.contains("throws"), false);
        }
        CHECK.due("codes that are good are among them", good > 3000, true);
        CHECK.due("runs that end are among them", ended > 1000, true);
        CHECK.end();
    }

    /** Each call is a row: which one, and its arguments; a tape is one call of many bytes. */
    private static int[][] calls() {
        int[][] calls = new int[60][];
        for (int i = 0; i < calls.length; i++) {
            int which = i % 12 == 0 ? 0 : 1 + RANDOM.nextInt(9);
            calls[i] = which == 0 ? tape() : new int[] {which, argument(), argument()};
        }
        return calls;
    }

    private static int argument() {
        switch (RANDOM.nextInt(6)) {
            case 0: return RANDOM.nextInt();
            case 1: return RANDOM.nextInt(400) - 50;
            case 2: return 200;
            default: return RANDOM.nextInt(10);
        }
    }

    private static int[] tape() {
        int[] bytes = code(RANDOM.nextInt(3)).bytes();
        if (RANDOM.nextInt(4) == 0) {
            bytes[RANDOM.nextInt(bytes.length)] = RANDOM.nextInt(256);
        }
        return Asm.join(new int[] {0}, bytes);
    }

    /** Heights are kept in mind, so that most of them are as they must be. */
    private static Asm code(int inner) {
        int arguments = RANDOM.nextInt(3);
        Asm code = new Asm(arguments, 3, 10).name("range").name("a").name("b").name("zero");
        code.constant(inner > 0 ? code(inner - 1).bytes() : Asm.none());
        code.constant(Asm.number(RANDOM.nextInt(8) - 3)).constant(Asm.number(RANDOM.nextInt()));
        code.constant(Asm.tuple(Asm.number(1), Asm.yes(), Asm.none())).constant(Asm.no());
        int height = 0;
        boolean block = RANDOM.nextBoolean();
        if (block) {
            code.op(Asm.BLOCK, 62);
        }
        while (code.place() < (block ? 60 : 58)) {
            int[] next = instruction(height);
            code.op(next[0], next[1]);
            height = next[2];
        }
        code.op(block ? Asm.UNBLOCK : Asm.POP).op(Asm.RETURN);
        if (block) {
            code.op(RANDOM.nextBoolean() ? Asm.RETURN : Asm.WALK);
        }
        return code.op(Asm.RETURN);
    }

    /** what, a, and the height behind it. */
    private static int[] instruction(int height) {
        if (height < 3) {
            int[] whats = {Asm.CONSTANT, Asm.CONSTANT, Asm.GLOBAL, Asm.LOCAL};
            int what = whats[RANDOM.nextInt(4)];
            return new int[] {what, RANDOM.nextInt(what == Asm.CONSTANT ? 5 : what == Asm.GLOBAL ? 4 : 3),
                height + 1};
        }
        if (RANDOM.nextInt(200) == 0) {
            return new int[] {WHATS[RANDOM.nextInt(WHATS.length)], RANDOM.nextInt(4), height};
        }
        switch (RANDOM.nextInt(13)) {
            case 0: return new int[] {Asm.SWAP, 0, height};
            case 1: return new int[] {Asm.ROT, 0, height};
            case 2: return height < 9 ? new int[] {Asm.DUP, 0, height + 1} : new int[] {Asm.POP, 0, height - 1};
            case 3: return new int[] {Asm.NOT, 0, height};
            case 4: return new int[] {Asm.FUNCTION, 0, height};
            case 5: return new int[] {Asm.WALK, 0, height};
            case 6: return new int[] {20 + 2 * RANDOM.nextInt(4), 0, height - 1};
            case 7: return new int[] {RANDOM.nextBoolean() ? Asm.ADD : Asm.ITEM, 0, height - 1};
            case 8: return new int[] {Asm.COMPARE, RANDOM.nextInt(6), height - 1};
            case 9: return new int[] {Asm.TUPLE, 2, height - 1};
            case 10: return new int[] {Asm.CALL, RANDOM.nextInt(2), height};
            case 11: return new int[] {RANDOM.nextBoolean() ? Asm.SET : Asm.STORE, 1 + RANDOM.nextInt(2), height - 1};
            default: return new int[] {Asm.NEG, 0, height};
        }
    }

    private static String answers(int[][] calls) {
        Host host = new Host();
        StringBuilder text = new StringBuilder();
        for (int[] call : calls) {
            try {
                text.append(answer(host, call)).append(' ');
            } catch (RuntimeException e) {
                text.append("throws ").append(e);
            }
        }
        return text.toString();
    }

    private static String answer(Host host, int[] call) {
        int a = call[1];
        int b = call[2];
        switch (call[0]) {
            case 0:
                String read = host.read(java.util.Arrays.copyOfRange(call, 1, call.length));
                good += read.equals("fine") ? 1 : 0;
                return read;
            case 1: case 2: case 3:
                String run = host.run(a);
                ended += host.x.about(0) > 1 ? 1 : 0;
                return run;
            case 4: return host.result() + " " + host.x.result(a);
            case 5: return host.stack(a) + " " + host.x.stack(a, b);
            case 6: return host.local(a) + " " + host.x.local(a, b);
            case 7: return host.global("a") + " " + host.x.global((long) a << 32 | b, 0);
            case 8: return host.x.about(a) + " " + host.x.about(b) + " " + host.x.fault();
            default: return a > 5 ? "" + host.x.again() : "" + (host.x.feed(a, b) == -1);
        }
    }
}
