import java.util.Arrays;

/**
 * Small pictures of signs, put together in a dictionary that is written as bytes in one of three
 * ways, read back or refused, and put into classes by likeness.
 */
public final class SymbolDictionaries {
    public static final int NONE = -1;

    private static final int MOST_SYMBOLS = 40;
    private static final int MOST_SIDE = 16;
    private static final int MOST_SHIFT = 4;
    private static final int MOST_WAITING = 3000;
    private static final int FIRST_ROOM_WRITTEN = 1024;

    private static final int KIND_RUNS = 1;
    private static final int KIND_CHANCES = 2;

    /** The context of a bit outside of planes: both ways are as likely, and nothing is learned. */
    private static final int EVEN = -1;
    private static final int CONTEXTS = 32;
    private static final int CONTEXT_WITH_BASE = 16;

    private static final int WHY_TOO_MANY = 0;
    private static final int WHY_HEIGHT = 1;
    private static final int WHY_WIDTH = 2;
    private static final int WHY_BASE = 3;
    private static final int WHY_SHIFT = 4;
    private static final int WHY_RUN = 5;
    private static final int WHY_EXPORTS = 6;
    private static final int WHY_NUMBER = 7;

    private final int kind;
    private final ByteRow written;
    private final ByteRow waiting;
    private final Writer writer;
    private final Reader reader;
    private Symbols current;
    private Symbols spare;

    public SymbolDictionaries(int kind) {
        this.kind = Math.max(0, Math.min(KIND_CHANCES, kind));
        written = new ByteRow(FIRST_ROOM_WRITTEN);
        waiting = new ByteRow(MOST_WAITING);
        Bits bits = this.kind == KIND_CHANCES ? new ChanceBits(written, waiting) : new PlainBits(written, waiting);
        writer = new Writer(bits, this.kind == KIND_RUNS);
        reader = new Reader(bits, this.kind == KIND_RUNS);
        current = new Symbols();
        spare = new Symbols();
    }

    public int symbol(int width, int height) throws IllegalArgumentException, UnsupportedOperationException {
        if (width < 1 || width > MOST_SIDE || height < 1 || height > MOST_SIDE) {
            throw new IllegalArgumentException("a width or height is 1 to 16");
        }
        if (current.size >= MOST_SYMBOLS) {
            throw new UnsupportedOperationException("there are 40 symbols");
        }
        return current.add(width, height);
    }

    public boolean put(int symbol, int x, int y, boolean black) throws IndexOutOfBoundsException {
        requireSample(symbol, x, y);
        if (current.isBlack(symbol, x, y) == black) {
            return false;
        }
        current.turn(symbol, x, y);
        return true;
    }

    public int row(int symbol, int y, int bits) throws IndexOutOfBoundsException {
        requireSample(symbol, 0, y);
        return current.setRow(symbol, y, bits);
    }

    public boolean at(int symbol, int x, int y) throws IndexOutOfBoundsException {
        requireSample(symbol, x, y);
        return current.isBlack(symbol, x, y);
    }

    public int refined(int symbol, int base, int dx, int dy)
            throws IndexOutOfBoundsException, IllegalArgumentException, IllegalStateException {
        requireSymbol(symbol);
        int before = current.bases[symbol];
        if (base == NONE) {
            current.refine(symbol, NONE, 0, 0);
            return before;
        }
        requireSymbol(base);
        if (dx < -MOST_SHIFT || dx > MOST_SHIFT || dy < -MOST_SHIFT || dy > MOST_SHIFT) {
            throw new IllegalArgumentException("a shift is -4 to 4");
        }
        if (!current.comesBefore(base, symbol)) {
            throw new IllegalStateException("a base comes before its symbol");
        }
        current.refine(symbol, base, dx, dy);
        return before;
    }

    public boolean export(int symbol, boolean on) throws IndexOutOfBoundsException {
        requireSymbol(symbol);
        boolean other = current.exported[symbol] != on;
        current.exported[symbol] = on;
        return other;
    }

    public int write() {
        writer.tell(current);
        return written.size;
    }

    public int byteAt(int i) throws IndexOutOfBoundsException {
        if (i < 0 || i >= written.size) {
            throw new IndexOutOfBoundsException("there is no such byte");
        }
        return written.bytes[i];
    }

    public int feed(int b) throws IllegalArgumentException, UnsupportedOperationException {
        if (b < 0 || b > 255) {
            throw new IllegalArgumentException("a byte is 0 to 255");
        }
        if (waiting.size >= MOST_WAITING) {
            throw new UnsupportedOperationException("there are 3000 bytes to be read");
        }
        waiting.add(b);
        return waiting.size;
    }

    public int pass() throws UnsupportedOperationException {
        if (waiting.size + written.size > MOST_WAITING) {
            throw new UnsupportedOperationException("there would be more than 3000 bytes to be read");
        }
        waiting.addAll(written);
        return waiting.size;
    }

    public int read() {
        spare.removeAll();
        boolean whole = reader.takeSymbols(spare) && reader.takeExports(spare);
        waiting.removeAll();
        if (!whole) {
            return -1 - reader.why;
        }
        Symbols former = current;
        current = spare;
        spare = former;
        return current.size;
    }

    public int told(int symbol, int what) throws IndexOutOfBoundsException, IllegalArgumentException {
        requireSymbol(symbol);
        switch (what) {
            case 0:
                return current.widths[symbol];
            case 1:
                return current.heights[symbol];
            case 2:
                return current.blackOf(symbol);
            case 3:
                return current.exported[symbol] ? 1 : 0;
            case 4:
                return current.bases[symbol];
            case 5:
                return current.dxs[symbol];
            case 6:
                return current.dys[symbol];
            case 7:
                return current.placeOf(symbol);
            default:
                throw new IllegalArgumentException("0 to 7 is told of a symbol");
        }
    }

    public int likeness(int a, int b) throws IndexOutOfBoundsException {
        requireSymbol(a);
        requireSymbol(b);
        return current.difference(a, b);
    }

    public int classes(int bound) throws IllegalArgumentException {
        if (bound < 0) {
            throw new IllegalArgumentException("a bound is not below 0");
        }
        return current.classify(bound);
    }

    public int cls(int symbol) throws IndexOutOfBoundsException {
        requireSymbol(symbol);
        return current.classOf[symbol];
    }

    public int count(int what) {
        switch (what) {
            case 0:
                return current.size;
            case 1:
                return written.size;
            case 2:
                return waiting.size;
            case 3:
                return kind;
            default:
                return NONE;
        }
    }

    public void clear() {
        current.removeAll();
        written.removeAll();
        waiting.removeAll();
    }

    private void requireSymbol(int symbol) {
        if (symbol < 0 || symbol >= current.size) {
            throw new IndexOutOfBoundsException("there is no such symbol");
        }
    }

    private void requireSample(int symbol, int x, int y) {
        requireSymbol(symbol);
        if (x < 0 || x >= current.widths[symbol] || y < 0 || y >= current.heights[symbol]) {
            throw new IndexOutOfBoundsException("there is no such sample");
        }
    }

    /** The context of a place in a plane, from its row so far, the row above, and what a base adds. */
    private static int contextAt(int row, int above, int x, int withBase) {
        int left = (row << 1) >> x & 1;
        int aboveLeft = (above << 1) >> x & 1;
        int straightAbove = above >> x & 1;
        int aboveRight = above >> (x + 1) & 1;
        return withBase + 8 * left + 4 * aboveLeft + 2 * straightAbove + aboveRight;
    }

    /** The symbols of one dictionary. Its methods are called with numbers of symbols that it has. */
    private static final class Symbols {
        final int[] widths = new int[MOST_SYMBOLS];
        final int[] heights = new int[MOST_SYMBOLS];
        final boolean[] exported = new boolean[MOST_SYMBOLS];
        final int[] bases = new int[MOST_SYMBOLS];
        final int[] dxs = new int[MOST_SYMBOLS];
        final int[] dys = new int[MOST_SYMBOLS];
        final int[] classOf = new int[MOST_SYMBOLS];
        int size;

        /** A number for each row of each symbol, its lowest bit the leftmost sample; no bits beyond the width. */
        private final int[] rows = new int[MOST_SYMBOLS * MOST_SIDE];
        private final int[] firstOfClass = new int[MOST_SYMBOLS];

        void removeAll() {
            size = 0;
        }

        int add(int width, int height) {
            int symbol = size;
            widths[symbol] = width;
            heights[symbol] = height;
            exported[symbol] = false;
            classOf[symbol] = NONE;
            refine(symbol, NONE, 0, 0);
            for (int y = 0; y < height; y++) {
                setRow(symbol, y, 0);
            }
            size = symbol + 1;
            return symbol;
        }

        void refine(int symbol, int base, int dx, int dy) {
            bases[symbol] = base;
            dxs[symbol] = dx;
            dys[symbol] = dy;
        }

        int rowOf(int symbol, int y) {
            return rows[symbol * MOST_SIDE + y];
        }

        int setRow(int symbol, int y, int bits) {
            int kept = withinWidth(symbol, bits);
            rows[symbol * MOST_SIDE + y] = kept;
            return Integer.bitCount(kept);
        }

        private int withinWidth(int symbol, int bits) {
            return bits & ((1 << widths[symbol]) - 1);
        }

        boolean isBlack(int symbol, int x, int y) {
            return (rowOf(symbol, y) >> x & 1) == 1;
        }

        void turn(int symbol, int x, int y) {
            rows[symbol * MOST_SIDE + y] ^= 1 << x;
        }

        int blackOf(int symbol) {
            int black = 0;
            for (int y = 0; y < heights[symbol]; y++) {
                black += Integer.bitCount(rowOf(symbol, y));
            }
            return black;
        }

        /** What the base, shifted, shows in a row of a symbol: white, if there is no base. */
        int foretoldRow(int symbol, int y) {
            int base = bases[symbol];
            if (base == NONE) {
                return 0;
            }
            int baseY = y - dys[symbol];
            if (baseY < 0 || baseY >= heights[base]) {
                return 0;
            }
            int row = rowOf(base, baseY);
            int dx = dxs[symbol];
            int shifted = dx >= 0 ? row << dx : row >> -dx;
            return withinWidth(symbol, shifted);
        }

        boolean comesBefore(int a, int b) {
            if (heights[a] != heights[b]) {
                return heights[a] < heights[b];
            }
            if (widths[a] != widths[b]) {
                return widths[a] < widths[b];
            }
            return a < b;
        }

        int placeOf(int symbol) {
            int place = 0;
            for (int other = 0; other < size; other++) {
                if (comesBefore(other, symbol)) {
                    place++;
                }
            }
            return place;
        }

        int difference(int a, int b) {
            if (widths[a] != widths[b] || heights[a] != heights[b]) {
                return NONE;
            }
            int different = 0;
            for (int y = 0; y < heights[a]; y++) {
                different += Integer.bitCount(rowOf(a, y) ^ rowOf(b, y));
            }
            return different;
        }

        int classify(int bound) {
            int made = 0;
            for (int symbol = 0; symbol < size; symbol++) {
                int found = firstFitting(symbol, bound, made);
                if (found == made) {
                    firstOfClass[made] = symbol;
                    made++;
                }
                classOf[symbol] = found;
            }
            return made;
        }

        /** The first class that a symbol fits, or how many there are. */
        private int firstFitting(int symbol, int bound, int made) {
            for (int c = 0; c < made; c++) {
                int different = difference(firstOfClass[c], symbol);
                if (different != NONE && different <= bound) {
                    return c;
                }
            }
            return made;
        }
    }

    /** Bytes one behind the other, taken from the front without going. */
    private static final class ByteRow {
        int[] bytes;
        int size;
        private int taken;

        ByteRow(int firstRoom) {
            bytes = new int[firstRoom];
        }

        void removeAll() {
            size = 0;
        }

        void add(int b) {
            if (size >= bytes.length) {
                bytes = Arrays.copyOf(bytes, 2 * size + 1);
            }
            bytes[size] = b;
            size++;
        }

        void addAll(ByteRow other) {
            for (int i = 0; i < other.size; i++) {
                add(other.bytes[i]);
            }
        }

        void takeFromFront() {
            taken = 0;
        }

        /** The next byte; those that lack count as 0. */
        int next() {
            if (taken >= size) {
                return 0;
            }
            int b = bytes[taken];
            taken++;
            return b;
        }
    }

    /** Bits on their way into the bytes written, or out of those to be read. */
    private abstract static class Bits {
        private static final int MOST_ZEROS = 8;

        final ByteRow written;
        final ByteRow waiting;

        Bits(ByteRow written, ByteRow waiting) {
            this.written = written;
            this.waiting = waiting;
        }

        abstract void startWriting();

        abstract void putBit(int bit, int context);

        abstract void finishWriting();

        abstract void startReading();

        abstract int takeBit(int context);

        void putNumber(int number) {
            int shown = number + 1;
            int k = 0;
            while (k < MOST_ZEROS && shown >> (k + 1) != 0) {
                k++;
            }
            // The k bits 0 in front are the highest of a number that is written in 2k + 1 bits.
            putBits(shown, 2 * k + 1);
        }

        void putBits(int value, int howMany) {
            for (int i = howMany - 1; i >= 0; i--) {
                putBit(value >> i & 1, EVEN);
            }
        }

        /** A number, or NONE if it has too many bits 0 in front. */
        int takeNumber() {
            int k = 0;
            while (k <= MOST_ZEROS && takeBit(EVEN) == 0) {
                k++;
            }
            if (k > MOST_ZEROS) {
                return NONE;
            }
            return (1 << k | takeBits(k)) - 1;
        }

        int takeBits(int howMany) {
            int value = 0;
            for (int i = 0; i < howMany; i++) {
                value = value << 1 | takeBit(EVEN);
            }
            return value;
        }
    }

    /** Eight bits to a byte, the highest first. */
    private static final class PlainBits extends Bits {
        private int held;
        private int howManyHeld;

        PlainBits(ByteRow written, ByteRow waiting) {
            super(written, waiting);
        }

        void startWriting() {
            written.removeAll();
            held = 0;
            howManyHeld = 0;
        }

        void putBit(int bit, int context) {
            held = held << 1 | bit;
            howManyHeld++;
            if (howManyHeld == 8) {
                written.add(held);
                held = 0;
                howManyHeld = 0;
            }
        }

        void finishWriting() {
            if (howManyHeld > 0) {
                written.add(held << (8 - howManyHeld));
            }
        }

        void startReading() {
            waiting.takeFromFront();
            howManyHeld = 0;
        }

        int takeBit(int context) {
            if (howManyHeld == 0) {
                held = waiting.next();
                howManyHeld = 8;
            }
            howManyHeld--;
            return held >> howManyHeld & 1;
        }
    }

    /** Bits that narrow an interval, each by its chance. */
    private static final class ChanceBits extends Bits {
        private static final int EVEN_CHANCE = 32768;
        private static final int FULL_CHANCE = 65535;
        private static final int LEAST_CHANCE = 64;
        private static final int MOST_CHANCE = 65472;
        private static final int BYTES_OF_INTERVAL = 4;
        private static final long LAST_OF_INTERVAL = 0xFFFFFFFFL;
        private static final long LOWER_THREE_BYTES = 0xFFFFFFL;

        private final int[] chances = new int[CONTEXTS];
        private long low;
        private long high;
        private long code;

        ChanceBits(ByteRow written, ByteRow waiting) {
            super(written, waiting);
        }

        void startWriting() {
            written.removeAll();
            forget();
        }

        void putBit(int bit, int context) {
            narrow(bit, split(context), context);
            for (int i = 0; i < BYTES_OF_INTERVAL && highestBytesAgree(); i++) {
                written.add((int) (low >> 24));
                shift();
            }
        }

        void finishWriting() {
            long last = low + 65535;
            written.add((int) (last >> 24) & 255);
            written.add((int) (last >> 16) & 255);
        }

        void startReading() {
            waiting.takeFromFront();
            forget();
            code = 0;
            for (int i = 0; i < BYTES_OF_INTERVAL; i++) {
                code = code << 8 | waiting.next();
            }
        }

        int takeBit(int context) {
            long split = split(context);
            int bit = code <= split ? 1 : 0;
            narrow(bit, split, context);
            for (int i = 0; i < BYTES_OF_INTERVAL && highestBytesAgree(); i++) {
                code = (code & LOWER_THREE_BYTES) << 8 | waiting.next();
                shift();
            }
            return bit;
        }

        private void forget() {
            low = 0;
            high = LAST_OF_INTERVAL;
            Arrays.fill(chances, EVEN_CHANCE);
        }

        private long split(int context) {
            int chance = EVEN_CHANCE;
            if (context >= 0 && context < CONTEXTS) {
                chance = Math.max(LEAST_CHANCE, Math.min(MOST_CHANCE, chances[context]));
            }
            return low + ((high - low) * chance >> 16);
        }

        private void narrow(int bit, long split, int context) {
            if (bit == 1) {
                high = split;
            } else {
                low = split + 1;
            }
            if (context >= 0 && context < CONTEXTS) {
                int chance = chances[context];
                chances[context] = bit == 1 ? chance + (FULL_CHANCE - chance) / 16 : chance - chance / 16;
            }
        }

        private boolean highestBytesAgree() {
            return low >> 24 == high >> 24;
        }

        private void shift() {
            low = (low & LOWER_THREE_BYTES) << 8;
            high = (high & LOWER_THREE_BYTES) << 8 | 255;
        }
    }

    /** Tells a dictionary bit by bit. */
    private static final class Writer {
        private final Bits bits;
        private final boolean byRuns;
        private final int[] order = new int[MOST_SYMBOLS];
        private final int[] plane = new int[MOST_SIDE];

        Writer(Bits bits, boolean byRuns) {
            this.bits = bits;
            this.byRuns = byRuns;
        }

        void tell(Symbols symbols) {
            for (int symbol = 0; symbol < symbols.size; symbol++) {
                order[symbols.placeOf(symbol)] = symbol;
            }
            bits.startWriting();
            bits.putNumber(symbols.size);
            for (int place = 0; place < symbols.size; place++) {
                tellSize(symbols, place);
                tellBase(symbols, place);
                layPlane(symbols, order[place]);
                if (byRuns) {
                    tellRuns(symbols, order[place]);
                } else {
                    tellSamples(symbols, order[place]);
                }
            }
            if (symbols.size > 0) {
                bits.putBit(0, EVEN);
            }
            tellExports(symbols);
            bits.finishWriting();
        }

        private void tellSize(Symbols symbols, int place) {
            int symbol = order[place];
            int heightBefore = place > 0 ? symbols.heights[order[place - 1]] : 0;
            int widthBefore = place > 0 ? symbols.widths[order[place - 1]] : 0;
            if (symbols.heights[symbol] != heightBefore) {
                if (place > 0) {
                    bits.putBit(0, EVEN);
                }
                bits.putNumber(symbols.heights[symbol] - heightBefore - 1);
                widthBefore = 0;
            }
            bits.putBit(1, EVEN);
            bits.putNumber(symbols.widths[symbol] - widthBefore);
        }

        private void tellBase(Symbols symbols, int place) {
            int symbol = order[place];
            int base = symbols.bases[symbol];
            if (base == NONE) {
                bits.putBit(0, EVEN);
                return;
            }
            bits.putBit(1, EVEN);
            bits.putNumber(place - symbols.placeOf(base) - 1);
            bits.putBits(symbols.dxs[symbol] + MOST_SHIFT, 4);
            bits.putBits(symbols.dys[symbol] + MOST_SHIFT, 4);
        }

        private void layPlane(Symbols symbols, int symbol) {
            for (int y = 0; y < symbols.heights[symbol]; y++) {
                plane[y] = symbols.rowOf(symbol, y) ^ symbols.foretoldRow(symbol, y);
            }
        }

        private void tellSamples(Symbols symbols, int symbol) {
            int withBase = symbols.bases[symbol] == NONE ? 0 : CONTEXT_WITH_BASE;
            int above = 0;
            for (int y = 0; y < symbols.heights[symbol]; y++) {
                for (int x = 0; x < symbols.widths[symbol]; x++) {
                    bits.putBit(plane[y] >> x & 1, contextAt(plane[y], above, x, withBase));
                }
                above = plane[y];
            }
        }

        private void tellRuns(Symbols symbols, int symbol) {
            int colour = 0;
            int length = 0;
            for (int y = 0; y < symbols.heights[symbol]; y++) {
                for (int x = 0; x < symbols.widths[symbol]; x++) {
                    if ((plane[y] >> x & 1) != colour) {
                        bits.putNumber(length);
                        colour = 1 - colour;
                        length = 0;
                    }
                    length++;
                }
            }
            bits.putNumber(length);
        }

        private void tellExports(Symbols symbols) {
            if (symbols.size == 0) {
                return;
            }
            boolean on = false;
            int length = 0;
            for (int place = 0; place < symbols.size; place++) {
                if (symbols.exported[order[place]] != on) {
                    bits.putNumber(length);
                    on = !on;
                    length = 0;
                }
                length++;
            }
            bits.putNumber(length);
        }
    }

    /** Takes a dictionary bit by bit; where a method answers false, the reading is refused and why is set. */
    private static final class Reader {
        /** Every run takes a bit 1 at least, and only bits that were fed can be 1. */
        private static final int MOST_RUNS = 8 * MOST_WAITING + 1;

        int why;

        private final Bits bits;
        private final boolean byRuns;
        private int height;
        private int width;

        Reader(Bits bits, boolean byRuns) {
            this.bits = bits;
            this.byRuns = byRuns;
        }

        boolean takeSymbols(Symbols symbols) {
            bits.startReading();
            int promised = bits.takeNumber();
            if (promised == NONE) {
                return refuse(WHY_NUMBER);
            }
            if (promised > MOST_SYMBOLS) {
                return refuse(WHY_TOO_MANY);
            }
            height = 0;
            width = 0;
            for (int symbol = 0; symbol < promised; symbol++) {
                if (!takeSize(symbols) || !takeBase(symbols, symbol)) {
                    return false;
                }
                if (!byRuns) {
                    takeSamples(symbols, symbol);
                } else if (!takeRuns(symbols, symbol)) {
                    return false;
                }
            }
            return promised == 0 || bits.takeBit(EVEN) == 0 || refuse(WHY_TOO_MANY);
        }

        boolean takeExports(Symbols symbols) {
            boolean on = false;
            int place = 0;
            for (int turn = 0; turn <= symbols.size && place < symbols.size; turn++) {
                int length = bits.takeNumber();
                if (length == NONE) {
                    return refuse(WHY_NUMBER);
                }
                if (length > symbols.size - place || length == 0 && turn > 0) {
                    return refuse(WHY_EXPORTS);
                }
                for (int i = 0; i < length; i++) {
                    symbols.exported[place + i] = on;
                }
                place += length;
                on = !on;
            }
            return true;
        }

        private boolean takeSize(Symbols symbols) {
            boolean newHeight = symbols.size == 0 || bits.takeBit(EVEN) == 0;
            if (newHeight && !takeHeight()) {
                return false;
            }
            int wider = bits.takeNumber();
            if (wider == NONE) {
                return refuse(WHY_NUMBER);
            }
            width += wider;
            if (width == 0 || width > MOST_SIDE) {
                return refuse(WHY_WIDTH);
            }
            symbols.add(width, height);
            return true;
        }

        private boolean takeHeight() {
            int higher = bits.takeNumber();
            if (higher == NONE) {
                return refuse(WHY_NUMBER);
            }
            height += higher + 1;
            if (height > MOST_SIDE) {
                return refuse(WHY_HEIGHT);
            }
            width = 0;
            return bits.takeBit(EVEN) == 1 || refuse(WHY_HEIGHT);
        }

        private boolean takeBase(Symbols symbols, int symbol) {
            if (bits.takeBit(EVEN) == 0) {
                return true;
            }
            int between = bits.takeNumber();
            if (between == NONE) {
                return refuse(WHY_NUMBER);
            }
            int base = symbol - 1 - between;
            if (base < 0) {
                return refuse(WHY_BASE);
            }
            int dx = bits.takeBits(4) - MOST_SHIFT;
            int dy = bits.takeBits(4) - MOST_SHIFT;
            if (dx > MOST_SHIFT || dy > MOST_SHIFT) {
                return refuse(WHY_SHIFT);
            }
            symbols.refine(symbol, base, dx, dy);
            return true;
        }

        private void takeSamples(Symbols symbols, int symbol) {
            int withBase = symbols.bases[symbol] == NONE ? 0 : CONTEXT_WITH_BASE;
            int above = 0;
            for (int y = 0; y < symbols.heights[symbol]; y++) {
                int row = 0;
                for (int x = 0; x < symbols.widths[symbol]; x++) {
                    row |= bits.takeBit(contextAt(row, above, x, withBase)) << x;
                }
                symbols.setRow(symbol, y, row ^ symbols.foretoldRow(symbol, y));
                above = row;
            }
        }

        private boolean takeRuns(Symbols symbols, int symbol) {
            int area = width * height;
            int place = 0;
            boolean differs = false;
            for (int y = 0; y < height; y++) {
                symbols.setRow(symbol, y, symbols.foretoldRow(symbol, y));
            }
            for (int run = 0; run < MOST_RUNS && place < area; run++) {
                int length = bits.takeNumber();
                if (length == NONE) {
                    return refuse(WHY_NUMBER);
                }
                if (length > area - place) {
                    return refuse(WHY_RUN);
                }
                if (differs) {
                    turnRun(symbols, symbol, place, length);
                }
                place += length;
                differs = !differs;
            }
            return true;
        }

        private void turnRun(Symbols symbols, int symbol, int from, int length) {
            if (width == 0) {
                return;
            }
            for (int place = from; place < from + length; place++) {
                symbols.turn(symbol, place % width, place / width);
            }
        }

        private boolean refuse(int reason) {
            why = reason;
            return false;
        }
    }
}
