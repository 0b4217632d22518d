import java.math.BigInteger;
import java.util.function.IntUnaryOperator;
import java.util.function.Supplier;

/** An OpcodeFrames that is fed with whole tapes and tells its values as texts. */
final class Host {
    final OpcodeFrames x = new OpcodeFrames();

    /** One that has read the code, which must be as it must be. */
    static Host of(Asm code) {
        Host host = new Host();
        String read = host.read(code);
        if (!read.equals("fine")) {
            throw new IllegalStateException("the test's own code: " + read);
        }
        return host;
    }

    /** Feeds all bytes, four at a time: an object has 512 calls. */
    void feedAll(int... bytes) {
        int at = 0;
        for (; at + 4 <= bytes.length; at += 4) {
            x.feed(bytes[at] << 24 | bytes[at + 1] << 16 | bytes[at + 2] << 8 | bytes[at + 3], 4);
        }
        for (; at < bytes.length; at++) {
            x.feed(bytes[at], 1);
        }
    }

    /** "fine", or the name of the exception and the fault. */
    String read(int... bytes) {
        feedAll(bytes);
        return outcome(() -> {
            x.read();
            return "fine";
        });
    }

    String read(Asm code) {
        return read(code.bytes());
    }

    private String outcome(Supplier<String> call) {
        try {
            return call.get();
        } catch (IllegalArgumentException e) {
            return "IllegalArgumentException " + x.fault();
        } catch (IllegalStateException e) {
            return "IllegalStateException " + x.fault();
        }
    }

    /** How many instructions, or the exception's name. */
    String run(int n) {
        try {
            return "" + x.run(n);
        } catch (IllegalArgumentException e) {
            return "IllegalArgumentException";
        } catch (IllegalStateException e) {
            return "IllegalStateException";
        }
    }

    /** Reads the code and runs it to its end: its value, "raises KIND", or what went wrong. */
    String ending(Asm code) {
        String read = read(code);
        if (!read.equals("fine")) {
            return read;
        }
        for (int i = 0; i < 50 && x.about(0) == 1; i++) {
            x.run(200);
        }
        return ended();
    }

    String ended() {
        switch (x.about(0)) {
            case 2: return result();
            case 3: return "raises " + x.about(5);
            default: return "has not ended";
        }
    }

    /** about(0) to about(7) as one text. */
    String about() {
        StringBuilder text = new StringBuilder();
        for (int what = 0; what < 8; what++) {
            text.append(what == 0 ? "" : " ").append(x.about(what));
        }
        return text.toString();
    }

    String result() {
        return text(x::result);
    }

    String stack(int i) {
        return text(k -> x.stack(i, k));
    }

    String local(int i) {
        return text(k -> x.local(i, k));
    }

    String global(String name) {
        return text(k -> x.global(packed(name), k));
    }

    static long packed(String name) {
        long letters = 0;
        for (char letter : name.toCharArray()) {
            letters = letters << 8 | letter;
        }
        return letters;
    }

    /** A ROW as a text; "nothing" where there is no row. */
    static String text(IntUnaryOperator row) {
        Cursor cursor = new Cursor(row);
        String text = cursor.value();
        int behind = cursor.at < 300 ? row.applyAsInt(cursor.at) : -1;
        return behind == -1 ? text : text + " and then " + behind;
    }

    private static final class Cursor {
        private final IntUnaryOperator row;
        private int at;

        Cursor(IntUnaryOperator row) {
            this.row = row;
        }

        private int next() {
            return row.applyAsInt(at++);
        }

        String value() {
            int tag = next();
            switch (tag) {
                case -1: return "nothing";
                case 0: return "NONE";
                case 1: return "FALSE";
                case 2: return "TRUE";
                case 3: return number();
                case 4: return tuple();
                case 5: return "range(" + next() + "," + next() + "," + next() + ")";
                case 6: return "walker";
                case 7: return "function/" + next();
                case 8: return "RANGE";
                case 9: return "KIND" + next();
                case 10: return "code/" + next();
                default: return "unknown " + tag;
            }
        }

        private String number() {
            boolean negative = next() == 1;
            int count = next();
            BigInteger value = BigInteger.ZERO;
            int last = 1;
            for (int i = 0; i < count; i++) {
                last = next();
                value = value.add(BigInteger.valueOf(last).shiftLeft(15 * i));
            }
            String text = (negative ? "-" : "") + value;
            return last == 0 ? text + " with a highest digit 0" : text;
        }

        private String tuple() {
            int count = next();
            StringBuilder text = new StringBuilder("(");
            for (int i = 0; i < count; i++) {
                text.append(i == 0 ? "" : ",").append(value());
            }
            return text.append(")").toString();
        }
    }
}
