import java.util.ArrayList;
import java.util.Arrays;

/**
 * A machine for the bytecode of a small language: CODEs are read from a tape of bytes, looked at
 * before they run, and worked off instruction by instruction with fuel.
 *
 * <p>This class holds the tape and reads it; Looker looks at a CODE, Machine runs it.
 */
public final class OpcodeFrames {
    public static final int NONE = -1;

    private static final int TAPE_MOST = 800;
    private static final int FUEL_MOST = 200;
    private static final int ROW_MOST = 300;
    private static final int OBJECTS_DEEP = 5;

    private static final int DIGIT_BITS = 15;
    private static final int BASE = 1 << DIGIT_BITS;
    private static final int DIGIT_MASK = BASE - 1;
    // 16 digits to the base 32768 are just the 240 bits that a number may have.
    private static final int DIGITS_MOST = 16;
    private static final int TUPLE_MOST = 12;
    private static final int TUPLES_DEEP = 4;

    private static final int ARGUMENTS_MOST = 4;
    private static final int LOCALS_MOST = 8;
    private static final int STACK_MOST = 10;
    private static final int CODE_MOST = 160;
    private static final int PLACES = CODE_MOST / 2;
    private static final int LIST_MOST = 12;
    private static final int LETTERS_MOST = 8;
    private static final int BLOCKS_MOST = 4;
    private static final int FRAMES_MOST = 8;
    private static final int STORED_MOST = 16;

    // The first bytes of the objects on the tape.
    private static final int BYTE_NONE = 78;
    private static final int BYTE_FALSE = 70;
    private static final int BYTE_TRUE = 84;
    private static final int BYTE_INT = 105;
    private static final int BYTE_LONG = 108;
    private static final int BYTE_TUPLE = 40;
    private static final int BYTE_CODE = 99;

    // The first numbers of the ROWs; they also tell what a value is.
    private static final int ROW_NONE = 0;
    private static final int ROW_FALSE = 1;
    private static final int ROW_TRUE = 2;
    private static final int ROW_NUMBER = 3;
    private static final int ROW_TUPLE = 4;
    private static final int ROW_RANGE = 5;
    private static final int ROW_WALKER = 6;
    private static final int ROW_FUNCTION = 7;
    private static final int ROW_MAKER = 8;
    private static final int ROW_KIND = 9;
    private static final int ROW_CODE = 10;

    private static final int POP = 1;
    private static final int SWAP = 2;
    private static final int ROT = 3;
    private static final int DUP = 4;
    private static final int NEG = 11;
    private static final int NOT = 12;
    private static final int MUL = 20;
    private static final int MOD = 22;
    private static final int ADD = 23;
    private static final int SUB = 24;
    private static final int ITEM = 25;
    private static final int DIV = 26;
    private static final int WALK = 68;
    private static final int RETURN = 83;
    private static final int UNBLOCK = 87;
    private static final int STORE = 90;
    private static final int SPREAD = 92;
    private static final int NEXT = 93;
    private static final int CONSTANT = 100;
    private static final int GLOBAL = 101;
    private static final int TUPLE = 102;
    private static final int COMPARE = 107;
    private static final int GO_ON = 110;
    private static final int GO_TO = 113;
    private static final int GO_IF_FALSE = 114;
    private static final int GO_IF_TRUE = 115;
    private static final int BLOCK = 122;
    private static final int LOCAL = 124;
    private static final int SET = 125;
    private static final int RAISE = 130;
    private static final int CALL = 131;
    private static final int FUNCTION = 132;
    private static final int EXTENDED = 144;

    private static final int LESS = 0;
    private static final int LESS_OR_EQUAL = 1;
    private static final int EQUAL = 2;
    private static final int NOT_EQUAL = 3;
    private static final int MORE = 4;
    private static final int SAME_KIND = 10;

    // What an instruction answers: FINE, or the KIND that it raises.
    private static final int FINE = -1;
    private static final int TYP = 0;
    private static final int ZERO = 1;
    private static final int INDEX = 2;
    private static final int VALUE = 3;
    private static final int NAME = 4;
    private static final int DEEP = 5;
    private static final int OVER = 6;
    private static final int KINDS = 7;

    private static final int NO_CODE = 0;
    private static final int UNDER_WAY = 1;
    private static final int ENDED_WITH_VALUE = 2;
    private static final int ENDED_BY_EXCEPTION = 3;

    // A name is held as its letters' bytes, the first one highest: range, and the KINDS 0 to 6
    // (typ, zero, index, value, name, deep, over).
    private static final long NAME_RANGE = 0x72616e6765L;
    private static final long[] NAMES_OF_KINDS = {
        0x747970L, 0x7a65726fL, 0x696e646578L, 0x76616c7565L, 0x6e616d65L, 0x64656570L, 0x6f766572L
    };

    private final int[] tape;
    private int fed;
    private int at;
    private int fault;
    private final ArrayList<Code> found;
    private final Looker looker;
    private final Machine machine;
    private final int[] row;
    private int rowLength;

    public OpcodeFrames() {
        tape = new int[TAPE_MOST];
        fault = NONE;
        found = new ArrayList<Code>();
        looker = new Looker();
        machine = new Machine();
        row = new int[ROW_MOST];
    }

    public int feed(int word, int n) {
        if (n < 1 || n > 4 || fed + n > TAPE_MOST) {
            return NONE;
        }
        for (int i = n - 1; i >= 0; i--) {
            tape[fed] = (word >>> (8 * i)) & 255;
            fed++;
        }
        return fed;
    }

    public void read() throws IllegalArgumentException, IllegalStateException {
        beginTape();
        Code code = codeAt(1);
        endTape();
        if (fault != NONE) {
            throw new IllegalArgumentException("the tape holds no CODE");
        }
        if (!allAreAsTheyMustBe()) {
            throw new IllegalStateException("a CODE is not as it must be");
        }
        machine.take(code);
    }

    public int fault() {
        return fault;
    }

    public int run(int n) throws IllegalStateException, IllegalArgumentException {
        if (machine.state != UNDER_WAY) {
            throw new IllegalStateException("there is no CODE under way");
        }
        if (n < 1 || n > FUEL_MOST) {
            throw new IllegalArgumentException("n is not 1 .. 200");
        }
        int done = 0;
        while (done < n && machine.state == UNDER_WAY) {
            int raised = machine.step();
            if (raised != FINE) {
                machine.raise(raised);
            }
            done++;
        }
        return done;
    }

    public boolean again() {
        return machine.begin();
    }

    public int about(int what) {
        switch (what) {
            case 0: return machine.state;
            case 1: return machine.depth;
            case 5: return machine.kind;
            case 6: return machine.count;
            case 7: return machine.storedCount;
            default: return aboutFrame(what);
        }
    }

    public int result(int k) {
        return numberOfRow(machine.ending, k);
    }

    public int stack(int i, int k) {
        Frame frame = machine.innermost();
        if (frame == null || i < 0 || i >= frame.height) {
            return NONE;
        }
        return numberOfRow(frame.fromTop(i), k);
    }

    public int local(int i, int k) {
        Frame frame = machine.innermost();
        return frame == null ? NONE : numberOfRow(frame.localAt(i), k);
    }

    public int global(long name, int k) {
        return numberOfRow(machine.storedBy(withoutZeros(name)), k);
    }

    private int aboutFrame(int what) {
        if (what < 2 || what > 4) {
            return NONE;
        }
        Frame frame = machine.innermost();
        if (frame == null) {
            return 0;
        }
        return what == 2 ? frame.place : what == 3 ? frame.height : frame.blocks;
    }

    private static long withoutZeros(long name) {
        long letters = 0;
        for (int i = 7; i >= 0; i--) {
            long letter = (name >>> (8 * i)) & 255;
            if (letter != 0) {
                letters = letters << 8 | letter;
            }
        }
        return letters;
    }

    // ---- rows ----

    private int numberOfRow(Value value, int k) {
        if (k < 0 || k >= ROW_MOST) {
            return NONE;
        }
        rowLength = 0;
        write(value, 0);
        return k < rowLength ? row[k] : NONE;
    }

    private void write(Value value, int deep) {
        if (value == null || deep > TUPLES_DEEP) {
            return;
        }
        put(value.tag);
        if (value instanceof Num number) {
            writeNumber(number);
        } else if (value instanceof Tuple tuple) {
            put(tuple.items.length);
            // A row can be far longer than what is ever asked for.
            for (int i = 0; i < tuple.items.length && rowLength < ROW_MOST; i++) {
                write(tuple.items[i], deep + 1);
            }
        } else if (value instanceof Range range) {
            put(range.from);
            put(range.to);
            put(range.step);
        } else if (value.tag == ROW_FUNCTION || value.tag == ROW_KIND || value.tag == ROW_CODE) {
            put(value.which);
        }
    }

    private void writeNumber(Num number) {
        put(number.negative ? 1 : 0);
        put(number.digits.length);
        for (int i = 0; i < number.digits.length; i++) {
            put(number.digits[i]);
        }
    }

    private void put(int number) {
        if (rowLength < ROW_MOST) {
            row[rowLength] = number;
            rowLength++;
        }
    }

    // ---- the tape: at is the next byte; behind a fault nothing is read any more ----

    private void beginTape() {
        at = 0;
        fault = NONE;
        found.clear();
    }

    private void endTape() {
        if (at < fed) {
            refuse();
        }
        fed = 0;
    }

    private boolean allAreAsTheyMustBe() {
        for (int i = 0; i < found.size(); i++) {
            if (!looker.passes(found.get(i))) {
                fault = 1000 * i;
                return false;
            }
        }
        return true;
    }

    /** Where the tape is at its end, at is its length: so one place serves both kinds of fault. */
    private void refuse() {
        if (fault == NONE) {
            fault = at;
        }
    }

    private int peek() {
        return at < fed && at < TAPE_MOST ? tape[at] : NONE;
    }

    private int byteWithin(int least, int most) {
        if (fault != NONE) {
            return NONE;
        }
        if (at >= fed || at >= TAPE_MOST || tape[at] < least || tape[at] > most) {
            fault = at;
            return NONE;
        }
        at++;
        return tape[at - 1];
    }

    private Value objectAt(int deep) {
        if (fault != NONE || deep > OBJECTS_DEEP) {
            refuse();
            return null;
        }
        switch (peek()) {
            case BYTE_NONE: return single(ROW_NONE);
            case BYTE_FALSE: return single(ROW_FALSE);
            case BYTE_TRUE: return single(ROW_TRUE);
            case BYTE_INT: return Num.of(fourBytes());
            case BYTE_LONG: return longNumber();
            case BYTE_TUPLE: return tupleAt(deep);
            case BYTE_CODE: return codeAt(deep);
            default:
                refuse();
                return null;
        }
    }

    private Value single(int tag) {
        at++;
        return new Value(tag, 0);
    }

    private int fourBytes() {
        at++;
        int value = 0;
        for (int i = 0; i < 4; i++) {
            value |= byteWithin(0, 255) << (8 * i);
        }
        return value;
    }

    private Value longNumber() {
        at++;
        int count = digitCount();
        int[] digits = new int[Math.min(Math.abs(count), DIGITS_MOST)];
        for (int i = 0; i < digits.length && fault == NONE; i++) {
            int low = byteWithin(0, 255);
            boolean highest = i == digits.length - 1;
            int high = byteWithin(highest && low == 0 ? 1 : 0, 127);
            digits[i] = high << 8 | low;
        }
        return new Num(count < 0, digits);
    }

    /** -16 .. 16 in two bytes: the upper one can only repeat the sign that the lower one tells. */
    private int digitCount() {
        int low = peek();
        boolean below = low >= 256 - DIGITS_MOST;
        if (low > DIGITS_MOST && !below) {
            refuse();
            return 0;
        }
        byteWithin(0, 255);
        int sign = below ? 255 : 0;
        byteWithin(sign, sign);
        return fault != NONE ? 0 : below ? low - 256 : low;
    }

    private Value tupleAt(int deep) {
        at++;
        return new Tuple(objects(byteWithin(0, TUPLE_MOST), deep + 1));
    }

    private Value[] objects(int count, int deep) {
        Value[] values = new Value[Math.max(count, 0)];
        for (int i = 0; i < values.length && fault == NONE; i++) {
            values[i] = objectAt(deep);
        }
        return values;
    }

    /** A CODE is found when its last byte is read, and so behind those in it, as looking wants it. */
    private Code codeAt(int deep) {
        byteWithin(BYTE_CODE, BYTE_CODE);
        int arguments = byteWithin(0, ARGUMENTS_MOST);
        int locals = byteWithin(Math.max(arguments, 0), LOCALS_MOST);
        int most = byteWithin(1, STACK_MOST);
        int[] bytes = instructions();
        Value[] constants = objects(byteWithin(0, LIST_MOST), deep + 1);
        long[] names = names(byteWithin(0, LIST_MOST));
        Code code = new Code(arguments, locals, most, bytes, constants, names);
        if (fault == NONE) {
            found.add(code);
        }
        return code;
    }

    private int[] instructions() {
        if (peek() % 2 != 0) {
            refuse();
        }
        int count = byteWithin(2, CODE_MOST);
        byteWithin(0, 0);
        int[] bytes = new int[Math.max(count, 0)];
        for (int i = 0; i < bytes.length && fault == NONE; i++) {
            bytes[i] = byteWithin(0, 255);
        }
        return bytes;
    }

    private long[] names(int count) {
        long[] names = new long[Math.max(count, 0)];
        for (int i = 0; i < names.length && fault == NONE; i++) {
            int letters = byteWithin(1, LETTERS_MOST);
            for (int j = 0; j < letters && fault == NONE; j++) {
                names[i] = names[i] << 8 | byteWithin('a', 'z');
            }
        }
        return names;
    }

    // ---- values ----

    /** As it is: NONE, FALSE, TRUE, RANGE and the KINDS; all others are classes below it. */
    private static class Value {
        final int tag;
        /** A KIND's number, or the ARGUMENTS of a function or CODE. */
        final int which;

        Value(int tag, int which) {
            this.tag = tag;
            this.which = which;
        }

        /** How many it can be walked over or asked for, or NONE if it is nothing of that sort. */
        long size() {
            return NONE;
        }

        Value itemAt(long i) {
            return null;
        }
    }

    /** Its digits are to the base 32768, the lowest first, the highest not 0; never changed. */
    private static final class Num extends Value {
        private static final int SMALL_DIGITS = 3;
        private static final long FAR = 1L << 50;

        final boolean negative;
        final int[] digits;

        Num(boolean negative, int[] digits) {
            super(ROW_NUMBER, 0);
            this.negative = negative;
            this.digits = digits;
        }

        static Num of(long value) {
            long size = Math.abs(value);
            int count = 0;
            for (long rest = size; rest > 0 && count < DIGITS_MOST; rest >>= DIGIT_BITS) {
                count++;
            }
            int[] digits = new int[count];
            for (int i = 0; i < count; i++) {
                digits[i] = (int) (size >> (DIGIT_BITS * i)) & DIGIT_MASK;
            }
            return new Num(value < 0, digits);
        }

        /** Itself; or, beyond every index and every end of a range, something that is so as well. */
        long small() {
            if (digits.length > SMALL_DIGITS) {
                return negative ? -FAR : FAR;
            }
            long size = 0;
            for (int i = digits.length - 1; i >= 0; i--) {
                size = size << DIGIT_BITS | digits[i];
            }
            return negative ? -size : size;
        }

        boolean isInt() {
            long value = small();
            return value >= Integer.MIN_VALUE && value <= Integer.MAX_VALUE;
        }
    }

    private static final class Tuple extends Value {
        final Value[] items;
        final int deep;

        Tuple(Value[] items) {
            super(ROW_TUPLE, 0);
            this.items = items;
            int deepest = 0;
            for (int i = 0; i < items.length; i++) {
                if (items[i] instanceof Tuple inner && inner.deep > deepest) {
                    deepest = inner.deep;
                }
            }
            deep = deepest + 1;
        }

        @Override
        long size() {
            return items.length;
        }

        @Override
        Value itemAt(long i) {
            return i < 0 || i >= items.length ? null : items[(int) i];
        }
    }

    private static final class Range extends Value {
        final int from;
        final int to;
        final int step;

        Range(int from, int to, int step) {
            super(ROW_RANGE, 0);
            this.from = from;
            this.to = to;
            this.step = step;
        }

        @Override
        long size() {
            long way = step > 0 ? (long) to - from : (long) from - to;
            long stride = Math.abs((long) step);
            return way <= 0 || stride == 0 ? 0 : (way - 1) / stride + 1;
        }

        @Override
        Value itemAt(long i) {
            return i < 0 || i >= size() ? null : Num.of(from + i * step);
        }

        boolean hasSameThree(Range other) {
            return from == other.from && to == other.to && step == other.step;
        }
    }

    private static final class Walker extends Value {
        final Value over;
        long place;

        Walker(Value over) {
            super(ROW_WALKER, 0);
            this.over = over;
        }
    }

    private static final class Function extends Value {
        final Code code;

        Function(Code code) {
            super(ROW_FUNCTION, code.which);
            this.code = code;
        }
    }

    private static final class Code extends Value {
        final int locals;
        final int most;
        final int[] bytes;
        final Value[] constants;
        final long[] names;

        Code(int arguments, int locals, int most, int[] bytes, Value[] constants, long[] names) {
            super(ROW_CODE, arguments);
            this.locals = locals;
            this.most = most;
            this.bytes = bytes;
            this.constants = constants;
            this.names = names;
        }

        /** 0, which is no instruction, where there is no byte. */
        int byteAt(int place) {
            return place < 0 || place >= bytes.length ? 0 : bytes[place];
        }
    }

    // ---- looking at a CODE ----

    /** Goes all ways through a CODE; a place is looked at once, and compared when come to again. */
    private static final class Looker {
        private static final int TUPLE_ARGUMENT = 10;
        private static final int CALL_ARGUMENT = 4;

        // What was on the stack, and which blocks there were, where a place was come to first.
        private final int[] heights = new int[PLACES];
        private final int[] blockCounts = new int[PLACES];
        private final int[] levels = new int[PLACES * BLOCKS_MOST];
        private final int[] handlers = new int[PLACES * BLOCKS_MOST];
        private final int[] queue = new int[PLACES];
        private int queued;
        private Code code;
        // The way that is gone just now.
        private final int[] wayLevels = new int[BLOCKS_MOST];
        private final int[] wayHandlers = new int[BLOCKS_MOST];
        private int height;
        private int blocks;

        boolean passes(Code looked) {
            code = looked;
            queued = 0;
            Arrays.fill(heights, NONE);
            boolean good = comeTo(0, 0, 0);
            for (int i = 0; good && i < queued && i < PLACES; i++) {
                good = lookAt(queue[i]);
            }
            return good;
        }

        private boolean lookAt(int place) {
            takeUp(place / 2);
            int what = code.byteAt(place);
            int a = code.byteAt(place + 1);
            int next = place + 2;
            if (what == EXTENDED) {
                // A second EXTENDED is refused below: it takes nothing that is told.
                what = code.byteAt(next);
                a = 256 * a + code.byteAt(next + 1);
                next += 2;
            }
            int takes = takes(what, a);
            int free = blocks > 0 ? height - wayLevels[blocks - 1] : height;
            if (takes == NONE || takes > free || !argumentIsThere(what, a)) {
                return false;
            }
            height += gives(what, a) - takes;
            return goOn(what, a, next);
        }

        private void takeUp(int slot) {
            height = heights[slot];
            blocks = blockCounts[slot];
            for (int i = 0; i < blocks && i < BLOCKS_MOST; i++) {
                wayLevels[i] = levels[slot * BLOCKS_MOST + i];
                wayHandlers[i] = handlers[slot * BLOCKS_MOST + i];
            }
        }

        private boolean goOn(int what, int a, int next) {
            switch (what) {
                case RETURN:
                    return blocks == 0;
                case RAISE:
                    return true;
                case GO_ON:
                    return comeTo(next + a, height, blocks);
                case GO_TO:
                    return comeTo(a, height, blocks);
                case GO_IF_FALSE: case GO_IF_TRUE:
                    return comeTo(a, height, blocks) && comeTo(next, height, blocks);
                case NEXT:
                    // At its end the walker goes, and none comes.
                    return comeTo(next + a, height - 2, blocks) && comeTo(next, height, blocks);
                case BLOCK:
                    return comeTo(next + a, height + 1, blocks) && goOnInBlock(next + a, next);
                case UNBLOCK:
                    return blocks > 0 && comeTo(next, height, blocks - 1);
                default:
                    return comeTo(next, height, blocks);
            }
        }

        private boolean goOnInBlock(int handler, int next) {
            if (blocks >= BLOCKS_MOST) {
                return false;
            }
            wayLevels[blocks] = height;
            wayHandlers[blocks] = handler;
            return comeTo(next, height, blocks + 1);
        }

        private boolean comeTo(int place, int count, int withBlocks) {
            if (place < 0 || place >= code.bytes.length || place % 2 != 0
                    || code.byteAt(place - 2) == EXTENDED || count > code.most) {
                return false;
            }
            int slot = place / 2;
            if (slot >= PLACES) {
                return false;
            }
            if (heights[slot] == NONE) {
                note(slot, count, withBlocks);
                return true;
            }
            return heights[slot] == count && hasBlocks(slot, withBlocks);
        }

        private void note(int slot, int count, int withBlocks) {
            heights[slot] = count;
            blockCounts[slot] = withBlocks;
            for (int i = 0; i < withBlocks && i < BLOCKS_MOST; i++) {
                levels[slot * BLOCKS_MOST + i] = wayLevels[i];
                handlers[slot * BLOCKS_MOST + i] = wayHandlers[i];
            }
            if (queued < PLACES) {
                queue[queued] = slot * 2;
                queued++;
            }
        }

        private boolean hasBlocks(int slot, int withBlocks) {
            boolean same = blockCounts[slot] == withBlocks;
            for (int i = 0; same && i < withBlocks && i < BLOCKS_MOST; i++) {
                same = levels[slot * BLOCKS_MOST + i] == wayLevels[i]
                        && handlers[slot * BLOCKS_MOST + i] == wayHandlers[i];
            }
            return same;
        }

        /** Places are not looked at here, but where they are come to. */
        private boolean argumentIsThere(int what, int a) {
            switch (what) {
                case CONSTANT: return a < code.constants.length;
                case STORE: case GLOBAL: return a < code.names.length;
                case LOCAL: case SET: return a < code.locals;
                case TUPLE: case SPREAD: return a <= TUPLE_ARGUMENT;
                case CALL: return a <= CALL_ARGUMENT;
                case COMPARE: return a <= 5 || a == SAME_KIND;
                case RAISE: return a == 1;
                case FUNCTION: return a == 0;
                default: return true;
            }
        }

        /** How many an instruction takes from the stack; NONE if it is no instruction. */
        private static int takes(int what, int a) {
            switch (what) {
                case CONSTANT: case GLOBAL: case LOCAL: case GO_ON: case GO_TO: case BLOCK:
                case UNBLOCK:
                    return 0;
                case POP: case DUP: case NEG: case NOT: case WALK: case RETURN: case STORE:
                case SPREAD: case NEXT: case GO_IF_FALSE: case GO_IF_TRUE: case SET: case RAISE:
                case FUNCTION:
                    return 1;
                case SWAP: case MUL: case MOD: case ADD: case SUB: case ITEM: case DIV:
                case COMPARE:
                    return 2;
                case ROT:
                    return 3;
                case TUPLE:
                    return a;
                case CALL:
                    return a + 1;
                default:
                    return NONE;
            }
        }

        private static int gives(int what, int a) {
            switch (what) {
                case POP: case RETURN: case STORE: case SET: case RAISE: case GO_ON: case GO_TO:
                case GO_IF_FALSE: case GO_IF_TRUE: case BLOCK: case UNBLOCK:
                    return 0;
                case SWAP: case DUP: case NEXT:
                    return 2;
                case ROT:
                    return 3;
                case SPREAD:
                    return a;
                default:
                    return 1;
            }
        }
    }

    // ---- running ----

    private static final class Frame {
        private final Value[] locals = new Value[LOCALS_MOST];
        private final Value[] values = new Value[STACK_MOST];
        private final int[] levels = new int[BLOCKS_MOST];
        private final int[] handlers = new int[BLOCKS_MOST];
        /** What is answered where nothing is: looking lets no CODE come to that. */
        private final Value nothing;
        private Code code;
        private int place;
        private int height;
        private int blocks;

        Frame(Value nothing) {
            this.nothing = nothing;
        }

        void begin(Code begun) {
            code = begun;
            place = 0;
            height = 0;
            blocks = 0;
            for (int i = 0; i < locals.length; i++) {
                locals[i] = null;
            }
        }

        void push(Value value) {
            if (height < STACK_MOST) {
                values[height] = value;
                height++;
            }
        }

        Value pop() {
            Value top = fromTop(0);
            drop(1);
            return top;
        }

        Value fromTop(int i) {
            int index = height - 1 - i;
            return index < 0 || index >= STACK_MOST ? nothing : values[index];
        }

        void setFromTop(int i, Value value) {
            int index = height - 1 - i;
            if (index >= 0 && index < STACK_MOST) {
                values[index] = value;
            }
        }

        void drop(int count) {
            height = Math.max(height - count, 0);
        }

        Value localAt(int i) {
            return i < 0 || i >= LOCALS_MOST ? null : locals[i];
        }

        void setLocal(int i, Value value) {
            if (i >= 0 && i < LOCALS_MOST) {
                locals[i] = value;
            }
        }

        void addBlock(int handler) {
            if (blocks < BLOCKS_MOST) {
                levels[blocks] = height;
                handlers[blocks] = handler;
                blocks++;
            }
        }

        /** Whether there was a block for it. */
        boolean handle(Value kind) {
            if (blocks < 1) {
                return false;
            }
            blocks--;
            height = levels[blocks];
            push(kind);
            place = handlers[blocks];
            return true;
        }
    }

    private static final class Machine {
        private final Frame[] frames = new Frame[FRAMES_MOST];
        private int depth;
        private Code first;
        private int state;
        private int kind;
        private int count;
        private Value ending;
        private final long[] storedNames = new long[STORED_MOST];
        private final Value[] stored = new Value[STORED_MOST];
        private int storedCount;
        private final Value no = new Value(ROW_FALSE, 0);
        private final Value yes = new Value(ROW_TRUE, 0);
        private final Value maker = new Value(ROW_MAKER, 0);
        private final Value[] kinds = new Value[KINDS];
        private final Num zero = Num.of(0);
        private final Num one = Num.of(1);
        private final Calculator calculator = new Calculator();

        Machine() {
            state = NO_CODE;
            kind = NONE;
            Value nothing = new Value(ROW_NONE, 0);
            for (int i = 0; i < FRAMES_MOST; i++) {
                frames[i] = new Frame(nothing);
            }
            for (int i = 0; i < KINDS; i++) {
                kinds[i] = new Value(ROW_KIND, i);
            }
        }

        void take(Code code) {
            first = code;
            begin();
        }

        boolean begin() {
            if (first == null) {
                return false;
            }
            frames[0].begin(first);
            depth = 1;
            state = UNDER_WAY;
            kind = NONE;
            count = 0;
            ending = null;
            return true;
        }

        /** null if it has ended, or never begun. */
        Frame innermost() {
            return depth < 1 || depth > FRAMES_MOST ? null : frames[depth - 1];
        }

        Value storedBy(long name) {
            int slot = slotOf(name);
            return slot < storedCount ? stored[slot] : null;
        }

        /** Does one instruction, but leaves what it raises to the caller. */
        int step() {
            count++;
            Frame frame = innermost();
            if (frame == null) {
                return TYP;
            }
            int what = frame.code.byteAt(frame.place);
            int a = frame.code.byteAt(frame.place + 1);
            frame.place += 2;
            if (what == EXTENDED) {
                what = frame.code.byteAt(frame.place);
                a = 256 * a + frame.code.byteAt(frame.place + 1);
                frame.place += 2;
            }
            switch (what) {
                case POP: case SWAP: case ROT: case DUP: return shuffle(frame, what);
                case NEG: return negate(frame);
                case NOT: return replace(frame, 1, truth(isFalse(frame.fromTop(0))));
                case MUL: case MOD: case ADD: case SUB: case DIV: return calculate(frame, what);
                case ITEM: return item(frame);
                case COMPARE: return compare(frame, a);
                case WALK: return walk(frame);
                case NEXT: return next(frame, a);
                case TUPLE: return tuple(frame, a);
                case SPREAD: return spread(frame, a);
                case GO_ON: case GO_TO: case GO_IF_FALSE: case GO_IF_TRUE: return go(frame, what, a);
                case BLOCK: case UNBLOCK: return block(frame, what, a);
                case CONSTANT: case GLOBAL: case LOCAL: return fetch(frame, what, a);
                case STORE: case SET: return keep(frame, what, a);
                case FUNCTION: return function(frame);
                case CALL: return call(frame, a);
                case RETURN: return leave(frame);
                case RAISE: return kindOf(frame.fromTop(0));
                default: return TYP;
            }
        }

        void raise(int raised) {
            Value value = raised < 0 || raised >= KINDS ? kinds[TYP] : kinds[raised];
            for (int i = 0; i < FRAMES_MOST && depth > 0; i++) {
                Frame frame = innermost();
                if (frame != null && frame.handle(value)) {
                    return;
                }
                depth--;
            }
            state = ENDED_BY_EXCEPTION;
            kind = value.which;
        }

        private int leave(Frame frame) {
            Value value = frame.pop();
            depth--;
            Frame caller = innermost();
            if (caller != null) {
                caller.push(value);
            } else {
                state = ENDED_WITH_VALUE;
                ending = value;
            }
            return FINE;
        }

        private static int replace(Frame frame, int taken, Value value) {
            frame.drop(taken);
            frame.push(value);
            return FINE;
        }

        private static int shuffle(Frame frame, int what) {
            Value top = frame.fromTop(0);
            Value second = frame.fromTop(1);
            if (what == POP) {
                frame.drop(1);
            } else if (what == DUP) {
                frame.push(top);
            } else if (what == SWAP) {
                frame.setFromTop(0, second);
                frame.setFromTop(1, top);
            } else {
                frame.setFromTop(0, second);
                frame.setFromTop(1, frame.fromTop(2));
                frame.setFromTop(2, top);
            }
            return FINE;
        }

        private int go(Frame frame, int what, int a) {
            boolean gone = true;
            if (what == GO_IF_FALSE || what == GO_IF_TRUE) {
                gone = isFalse(frame.pop()) == (what == GO_IF_FALSE);
            }
            if (gone) {
                frame.place = what == GO_ON ? frame.place + a : a;
            }
            return FINE;
        }

        private static int block(Frame frame, int what, int a) {
            if (what == BLOCK) {
                frame.addBlock(frame.place + a);
            } else {
                frame.blocks = Math.max(frame.blocks - 1, 0);
            }
            return FINE;
        }

        // ---- numbers and what is compared ----

        private Value truth(boolean holds) {
            return holds ? yes : no;
        }

        private static boolean isFalse(Value value) {
            if (value instanceof Num number) {
                return number.digits.length == 0;
            }
            return value.size() == 0 || value.tag == ROW_NONE || value.tag == ROW_FALSE;
        }

        /** null if it is no number and does not count as one. */
        private Num numberOf(Value value) {
            if (value instanceof Num number) {
                return number;
            }
            return value.tag == ROW_FALSE ? zero : value.tag == ROW_TRUE ? one : null;
        }

        private int negate(Frame frame) {
            Num number = numberOf(frame.fromTop(0));
            if (number == null) {
                return TYP;
            }
            boolean negative = !number.negative && number.digits.length > 0;
            return replace(frame, 1, new Num(negative, number.digits));
        }

        private int calculate(Frame frame, int what) {
            if (what == ADD && frame.fromTop(1) instanceof Tuple first
                    && frame.fromTop(0) instanceof Tuple second) {
                return join(frame, first.items, second.items);
            }
            Num left = numberOf(frame.fromTop(1));
            Num right = numberOf(frame.fromTop(0));
            if (left == null || right == null) {
                return TYP;
            }
            if ((what == DIV || what == MOD) && right.digits.length == 0) {
                return ZERO;
            }
            Num number;
            switch (what) {
                case MUL: number = calculator.product(left, right); break;
                case DIV: number = calculator.quotient(left, right); break;
                case MOD: number = calculator.rest(left, right); break;
                default: number = calculator.sum(left, right, what == SUB); break;
            }
            return number == null ? OVER : replace(frame, 2, number);
        }

        private static int join(Frame frame, Value[] left, Value[] right) {
            int size = left.length + right.length;
            if (size > TUPLE_MOST) {
                return OVER;
            }
            Value[] items = new Value[size];
            for (int i = 0; i < size; i++) {
                int behind = i - left.length;
                items[i] = behind < 0 ? left[i] : right[behind];
            }
            return replace(frame, 2, new Tuple(items));
        }

        private int item(Frame frame) {
            Value whole = frame.fromTop(1);
            Num number = numberOf(frame.fromTop(0));
            long size = whole.size();
            if (size == NONE || number == null) {
                return TYP;
            }
            long index = number.small();
            Value item = whole.itemAt(index < 0 ? index + size : index);
            return item == null ? INDEX : replace(frame, 2, item);
        }

        private int compare(Frame frame, int how) {
            Value left = frame.fromTop(1);
            Value right = frame.fromTop(0);
            boolean holds;
            if (how == EQUAL || how == NOT_EQUAL) {
                holds = areEqual(left, right, 0) == (how == EQUAL);
            } else if (how == SAME_KIND) {
                if (left.tag != ROW_KIND || right.tag != ROW_KIND) {
                    return TYP;
                }
                holds = left.which == right.which;
            } else {
                Num first = numberOf(left);
                Num second = numberOf(right);
                if (first == null || second == null) {
                    return TYP;
                }
                int order = Calculator.order(first, second);
                holds = how == LESS ? order < 0 : how == LESS_OR_EQUAL ? order <= 0
                        : how == MORE ? order > 0 : order >= 0;
            }
            return replace(frame, 2, truth(holds));
        }

        private boolean areEqual(Value left, Value right, int deep) {
            if (left == right) {
                return true;
            }
            if (left == null || right == null || deep > TUPLES_DEEP) {
                return false;
            }
            Num first = numberOf(left);
            Num second = numberOf(right);
            if (first != null && second != null) {
                return Calculator.order(first, second) == 0;
            }
            if (left instanceof Range leftRange && right instanceof Range rightRange) {
                return leftRange.hasSameThree(rightRange);
            }
            if (left instanceof Tuple leftTuple && right instanceof Tuple rightTuple) {
                return haveEqualItems(leftTuple.items, rightTuple.items, deep + 1);
            }
            // NONE is read anew from each tape; of the built ones there is one each.
            return left.tag == ROW_NONE && right.tag == ROW_NONE;
        }

        private boolean haveEqualItems(Value[] left, Value[] right, int deep) {
            boolean equal = left.length == right.length;
            for (int i = 0; equal && i < left.length && i < right.length; i++) {
                equal = areEqual(left[i], right[i], deep);
            }
            return equal;
        }

        // ---- tuples and walkers ----

        private static int tuple(Frame frame, int size) {
            if (size < 0 || size > TUPLE_MOST) {
                return OVER;
            }
            Value[] items = new Value[size];
            for (int i = 0; i < size; i++) {
                items[i] = frame.fromTop(size - 1 - i);
            }
            Tuple tuple = new Tuple(items);
            return tuple.deep > TUPLES_DEEP ? OVER : replace(frame, size, tuple);
        }

        private static int spread(Frame frame, int size) {
            if (frame.fromTop(0) instanceof Tuple tuple) {
                if (tuple.items.length != size) {
                    return VALUE;
                }
                frame.drop(1);
                for (int i = tuple.items.length - 1; i >= 0; i--) {
                    frame.push(tuple.items[i]);
                }
                return FINE;
            }
            return TYP;
        }

        private static int walk(Frame frame) {
            Value top = frame.fromTop(0);
            if (top instanceof Walker) {
                return FINE;
            }
            return top.size() == NONE ? TYP : replace(frame, 1, new Walker(top));
        }

        private static int next(Frame frame, int a) {
            if (frame.fromTop(0) instanceof Walker walker) {
                Value item = walker.over.itemAt(walker.place);
                if (item != null) {
                    walker.place++;
                    frame.push(item);
                } else {
                    frame.drop(1);
                    frame.place += a;
                }
                return FINE;
            }
            return TYP;
        }

        // ---- constants, names and locals ----

        private int fetch(Frame frame, int what, int a) {
            Value value;
            if (what == CONSTANT) {
                value = a < frame.code.constants.length ? frame.code.constants[a] : null;
            } else if (what == GLOBAL) {
                value = a < frame.code.names.length ? namedBy(frame.code.names[a]) : null;
            } else {
                value = frame.localAt(a);
            }
            if (value == null) {
                return NAME;
            }
            frame.push(value);
            return FINE;
        }

        private int keep(Frame frame, int what, int a) {
            if (what == SET) {
                frame.setLocal(a, frame.pop());
                return FINE;
            }
            long name = a < frame.code.names.length ? frame.code.names[a] : 0;
            int slot = slotOf(name);
            if (slot >= STORED_MOST) {
                return OVER;
            }
            if (slot == storedCount) {
                storedNames[slot] = name;
                storedCount++;
            }
            stored[slot] = frame.pop();
            return FINE;
        }

        /** The first free slot if nothing is stored by the name. */
        private int slotOf(long name) {
            int slot = 0;
            while (slot < storedCount && slot < STORED_MOST && storedNames[slot] != name) {
                slot++;
            }
            return slot;
        }

        private Value namedBy(long name) {
            Value value = storedBy(name);
            if (value == null && name == NAME_RANGE) {
                return maker;
            }
            for (int i = 0; value == null && i < KINDS; i++) {
                if (name == NAMES_OF_KINDS[i]) {
                    value = kinds[i];
                }
            }
            return value;
        }

        // ---- functions ----

        /** The KIND's number to be raised; what is no KIND raises 0 itself. */
        private static int kindOf(Value value) {
            return value.tag == ROW_KIND ? value.which : TYP;
        }

        private static int function(Frame frame) {
            if (frame.fromTop(0) instanceof Code code) {
                return replace(frame, 1, new Function(code));
            }
            return TYP;
        }

        private int call(Frame frame, int arguments) {
            Value called = frame.fromTop(arguments);
            if (called instanceof Function function) {
                return enter(frame, function.code, arguments);
            }
            return called.tag == ROW_MAKER ? makeRange(frame, arguments) : TYP;
        }

        private int enter(Frame caller, Code code, int arguments) {
            if (arguments != code.which) {
                return TYP;
            }
            if (depth >= FRAMES_MOST) {
                return DEEP;
            }
            Frame frame = frames[depth];
            frame.begin(code);
            for (int i = 0; i < arguments; i++) {
                frame.setLocal(i, caller.fromTop(arguments - 1 - i));
            }
            caller.drop(arguments + 1);
            depth++;
            return FINE;
        }

        private int makeRange(Frame frame, int arguments) {
            if (arguments < 1 || arguments > 3) {
                return TYP;
            }
            boolean allFit = true;
            for (int i = 0; i < arguments; i++) {
                Num number = numberOf(frame.fromTop(i));
                if (number == null) {
                    return TYP;
                }
                allFit = allFit && number.isInt();
            }
            if (!allFit) {
                return OVER;
            }
            int from = arguments == 1 ? 0 : intFromTop(frame, arguments - 1);
            int to = intFromTop(frame, arguments == 3 ? 1 : 0);
            int step = arguments == 3 ? intFromTop(frame, 0) : 1;
            return step == 0 ? VALUE : replace(frame, arguments + 1, new Range(from, to, step));
        }

        private int intFromTop(Frame frame, int i) {
            Num number = numberOf(frame.fromTop(i));
            return number == null ? 0 : (int) number.small();
        }
    }

    /** The rows stand here once, so that a calculation makes no more than its result. */
    private static final class Calculator {
        private final int[] work = new int[2 * DIGITS_MOST + 2];
        private final int[] divisor = new int[DIGITS_MOST + 2];
        private final int[] ratio = new int[DIGITS_MOST + 2];

        static int order(Num left, Num right) {
            if (left.negative != right.negative) {
                return left.negative ? -1 : 1;
            }
            int order = orderOfSizes(left.digits, right.digits);
            return left.negative ? -order : order;
        }

        private static int orderOfSizes(int[] left, int[] right) {
            int order = Integer.compare(left.length, right.length);
            for (int i = left.length - 1; order == 0 && i >= 0 && i < right.length; i--) {
                order = Integer.compare(left[i], right[i]);
            }
            return order;
        }

        /** null if it has more than 240 bits. */
        Num sum(Num left, Num right, boolean minus) {
            boolean rightNegative = right.negative != minus;
            if (left.negative == rightNegative) {
                add(left.digits, right.digits);
                return made(work, DIGITS_MOST + 1, left.negative);
            }
            if (orderOfSizes(left.digits, right.digits) >= 0) {
                lessen(left.digits, right.digits);
                return made(work, DIGITS_MOST, left.negative);
            }
            lessen(right.digits, left.digits);
            return made(work, DIGITS_MOST, rightNegative);
        }

        private void add(int[] left, int[] right) {
            int carry = 0;
            for (int i = 0; i < DIGITS_MOST; i++) {
                int digit = digitAt(left, i) + digitAt(right, i) + carry;
                work[i] = digit & DIGIT_MASK;
                carry = digit >> DIGIT_BITS;
            }
            work[DIGITS_MOST] = carry;
        }

        private void lessen(int[] larger, int[] smaller) {
            int borrow = 0;
            for (int i = 0; i < DIGITS_MOST; i++) {
                int digit = digitAt(larger, i) - digitAt(smaller, i) - borrow;
                work[i] = digit & DIGIT_MASK;
                borrow = digit < 0 ? 1 : 0;
            }
        }

        /** null if it has more than 240 bits. */
        Num product(Num left, Num right) {
            int most = left.digits.length + right.digits.length;
            // It has one digit less than both have, at least.
            if (most > DIGITS_MOST + 1) {
                return null;
            }
            Arrays.fill(work, 0);
            for (int i = 0; i < left.digits.length; i++) {
                int carry = 0;
                for (int j = 0; j < right.digits.length; j++) {
                    int digit = work[i + j] + left.digits[i] * right.digits[j] + carry;
                    work[i + j] = digit & DIGIT_MASK;
                    carry = digit >> DIGIT_BITS;
                }
                work[i + right.digits.length] = carry;
            }
            return made(work, most, left.negative != right.negative);
        }

        /** Cut downwards; right is not 0. */
        Num quotient(Num left, Num right) {
            boolean rest = divide(left.digits, right.digits);
            boolean negative = left.negative != right.negative;
            int carry = negative && rest ? 1 : 0;
            for (int i = 0; i < ratio.length && carry > 0; i++) {
                int digit = ratio[i] + carry;
                ratio[i] = digit & DIGIT_MASK;
                carry = digit >> DIGIT_BITS;
            }
            return made(ratio, ratio.length, negative);
        }

        /** What is left by the quotient, and so with right's sign; right is not 0. */
        Num rest(Num left, Num right) {
            boolean rest = divide(left.digits, right.digits);
            if (rest && left.negative != right.negative) {
                int borrow = 0;
                for (int i = 0; i < DIGITS_MOST; i++) {
                    int digit = digitAt(right.digits, i) - work[i] - borrow;
                    work[i] = digit & DIGIT_MASK;
                    borrow = digit < 0 ? 1 : 0;
                }
            }
            return made(work, DIGITS_MOST, right.negative);
        }

        /** Leaves the quotient in ratio and the rest in work: whether there is a rest. */
        private boolean divide(int[] upper, int[] lower) {
            Arrays.fill(ratio, 0);
            int size = lower.length;
            // Guesses are good only if the divisor's highest digit fills its bits.
            int shift = 0;
            while (shift < DIGIT_BITS && size > 0 && lower[size - 1] << shift < BASE / 2) {
                shift++;
            }
            shiftUp(upper, shift, work);
            shiftUp(lower, shift, divisor);
            for (int i = upper.length - size; i >= 0 && size > 0; i--) {
                ratio[i] = takeOff(i, size, guess(i, size));
            }
            boolean rest = false;
            for (int i = 0; i <= DIGITS_MOST; i++) {
                work[i] = (work[i] >> shift) | (work[i + 1] << (DIGIT_BITS - shift) & DIGIT_MASK);
                rest = rest || work[i] != 0;
            }
            return rest;
        }

        private static void shiftUp(int[] digits, int shift, int[] row) {
            Arrays.fill(row, 0);
            int carry = 0;
            for (int i = 0; i < digits.length && i + 1 < row.length; i++) {
                int digit = digits[i] << shift | carry;
                row[i] = digit & DIGIT_MASK;
                carry = digit >> DIGIT_BITS;
                row[i + 1] = carry;
            }
        }

        /** The quotient's digit i by the highest digits alone: at most one too large. */
        private long guess(int i, int size) {
            long highest = divisor[size - 1];
            if (highest == 0) {
                return 0;
            }
            long head = (long) work[i + size] << DIGIT_BITS | work[i + size - 1];
            long second = size > 1 ? divisor[size - 2] : 0;
            long third = size > 1 ? work[i + size - 2] : 0;
            long digit = head / highest;
            long rest = head % highest;
            for (int n = 0; n < 2 && rest < BASE; n++) {
                if (digit >= BASE || digit * second > (rest << DIGIT_BITS) + third) {
                    digit--;
                    rest += highest;
                }
            }
            return digit;
        }

        private int takeOff(int i, int size, long guessed) {
            long carry = 0;
            for (int j = 0; j <= size; j++) {
                long digit = work[i + j] - guessed * divisor[j] + carry;
                work[i + j] = (int) (digit & DIGIT_MASK);
                carry = digit >> DIGIT_BITS;
            }
            if (carry >= 0) {
                return (int) guessed;
            }
            int back = 0;
            for (int j = 0; j <= size; j++) {
                int digit = work[i + j] + divisor[j] + back;
                work[i + j] = digit & DIGIT_MASK;
                back = digit >> DIGIT_BITS;
            }
            return (int) guessed - 1;
        }

        private static int digitAt(int[] digits, int i) {
            return i < digits.length ? digits[i] : 0;
        }

        private static Num made(int[] row, int most, boolean negative) {
            int count = Math.min(most, row.length);
            while (count > 0 && row[count - 1] == 0) {
                count--;
            }
            return count > DIGITS_MOST ? null : new Num(negative && count > 0, Arrays.copyOf(row, count));
        }
    }
}
