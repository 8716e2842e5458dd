import java.util.Arrays;
import java.util.function.Consumer;
import java.util.function.Supplier;

/** Promises 8 and 9, and what the terms say of writing, in each kind: sentence by sentence. */
public final class WritingTest {
    private static final int NONE = SymbolDictionaries.NONE;
    private static final String[] WHITE = lines("0".repeat(16), 16);

    public static void main(String[] args) {
        numbersSpelledOut();
        numbersOfAllLengths();
        runs();
        runsAtTheirLongest();
        fullBytes();
        for (int kind = 0; kind <= 2; kind++) {
            howManySymbols(kind);
            heights(kind);
            widths(kind);
            bases(kind);
            placesBetween(kind);
            shifts(kind);
            planeRowByRow(kind);
            planeOverBase(kind);
            baseAsItIsNow(kind);
            baseWithABase(kind);
            whiteOutsideOfTheBase(kind);
            endOfHeight(kind);
            exports(kind);
            noExportsOfNothing(kind);
            howManyBytes(kind);
            writtenAgain(kind);
            writingChangesNothing(kind);
            writtenLast(kind);
            bytesAtTheirEnds(kind);
        }
        bitByBit();
        bitByBitWithChances();
        chancesOutsideOfPlanes();
        contextsOutside();
        everyContext();
        chancesEvenAtFirst();
        chancesAtTheirEnds();
        chancesRoundDown();
        splitsRoundDown();
        manyBytesAtOnce();
        endOfTheInterval();
        Due.end();
    }

    private static String[] lines(String line, int howMany) {
        String[] lines = new String[howMany];
        Arrays.fill(lines, line);
        return lines;
    }

    /** A symbol of these rows, the leftmost sample first. */
    private static int drawn(Counted d, String... rows) {
        int symbol = d.symbol(rows[0].length(), rows.length);
        for (int y = 0; y < rows.length; y++) {
            d.row(symbol, y, Integer.parseInt(new StringBuilder(rows[y]).reverse().toString(), 2));
        }
        return symbol;
    }

    /** What a new object writes, and one that was used before. */
    private static void dueBytes(String what, int kind, Consumer<Counted> made, BitRow due) {
        dueBytesOf(() -> new Counted(kind), what, kind, made, due);
        dueBytesOf(() -> Counted.cleared(kind), what + ", cleared before", kind, made, due);
    }

    private static void dueBytesOf(Supplier<Counted> start, String what, int kind, Consumer<Counted> made, BitRow due) {
        int[] bytes = due.bytes(kind);
        Alike d = new Alike(() -> {
            Counted one = start.get();
            made.accept(one);
            Due.is("kind " + kind + ", " + what + ": bytes", bytes.length, one::write);
            return one;
        });
        Due.same("kind " + kind + ", " + what, Arrays.toString(d.bytes()), Arrays.toString(bytes));
    }

    /** Numbers by the longest runs that a plane has, with all bits in the test, so that it rests on nothing else. */
    private static void numbersSpelledOut() {
        Due.sentence("Terms", "a NUMBER n, 0 .. 510, as k bits 0, a 1, and the lowest k bits of n + 1, the highest first");
        String[] shown = {"0: 1", "1: 010", "2: 011", "3: 00100", "4: 00101", "5: 00110", "6: 00111", "7: 0001000",
            "15: 000010000", "16: 000010001", "31: 00000100000", "240: 000000011110001", "254: 000000011111111",
            "255: 00000000100000000", "256: 00000000100000001"};
        for (String one : shown) {
            int length = Integer.parseInt(one.substring(0, one.indexOf(':')));
            String number = one.substring(one.indexOf(' '));
            String behind = length == 256 ? "" : restOf(shown, 256 - length);
            if (behind != null) {
                // One symbol, 16 high; one more, 16 wide, no base; the plane; no more; one that is not exported.
                BitRow due = new BitRow().text("010" + "000010000" + "1" + "000010001" + "0" + number + behind + "0" + "010");
                dueBytes("run of " + length, 1, d -> runInFront(d, length), due);
            }
        }
    }

    private static String restOf(String[] shown, int n) {
        for (String one : shown) {
            if (one.startsWith(n + ": ")) {
                return one.substring(one.indexOf(' '));
            }
        }
        return null;
    }

    /** A symbol of 16 by 16 with so many white samples in front of black ones. */
    private static void runInFront(Counted d, int length) {
        String samples = "0".repeat(length) + "1".repeat(256 - length);
        String[] rows = new String[16];
        for (int y = 0; y < 16; y++) {
            rows[y] = samples.substring(16 * y, 16 * y + 16);
        }
        drawn(d, rows);
    }

    private static void numbersOfAllLengths() {
        Due.sentence("Terms", "where 2^k is the greatest such number not above n + 1");
        for (int length = 0; length <= 256; length++) {
            int n = length;
            BitRow due = new BitRow().numbers(1, 15).bit(1).number(16).bit(0).number(n);
            if (n < 256) {
                due.number(256 - n);
            }
            dueBytes("run of " + n, 1, d -> runInFront(d, n), due.bit(0).number(1));
        }
    }

    private static void howManySymbols(int kind) {
        Due.sentence("Terms", "How many symbols, a number.");
        int[] some = {1, 2, 3, 30, 31, 39, 40};
        for (int n : some) {
            BitRow due = new BitRow().numbers(n, 0);
            for (int i = 0; i < n; i++) {
                due.symbol(kind, i == 0 ? 1 : 0, "0");
            }
            dueBytes(n + " symbols", kind, d -> {
                for (int i = 0; i < n; i++) {
                    d.symbol(1, 1);
                }
            }, due.bit(0).number(n));
        }
        dueBytes("no symbols", kind, d -> { }, new BitRow().number(0));
    }

    private static void heights(int kind) {
        Due.sentence("Terms", "for each height that there is, rising: how much it is above the height before (0 before the "
            + "first), less 1, a number");
        int[][] some = {{1}, {16}, {1, 2}, {1, 16}, {15, 16}, {3, 8, 9}, {1, 2, 3, 4, 5, 6, 7, 8, 9, 10, 11, 12, 13, 14, 15, 16}};
        for (int[] heights : some) {
            BitRow due = new BitRow().number(heights.length);
            int before = 0;
            for (int height : heights) {
                due.number(height - before - 1).symbol(kind, 1, lines("0", height)).bit(0);
                before = height;
            }
            dueBytes("heights " + Arrays.toString(heights), kind, d -> {
                for (int i = heights.length - 1; i >= 0; i--) {
                    d.symbol(1, heights[i]);
                }
            }, due.number(heights.length));
        }
    }

    private static void widths(int kind) {
        Due.sentence("Terms", "for each symbol of that height, in order: a bit 1; how much its width is above that of the "
            + "one before with this height (0 before the first), a number");
        BitRow due = new BitRow().number(7);
        due.number(0).symbol(kind, 1, "1").symbol(kind, 0, "0").symbol(kind, 15, "0".repeat(16)).bit(0);
        due.number(0).symbol(kind, 1, "0", "0").symbol(kind, 1, "00", "00").bit(0);
        due.number(0).symbol(kind, 16, lines("0".repeat(16), 3)).symbol(kind, 0, lines("0".repeat(16), 3)).bit(0);
        dueBytes("widths", kind, d -> {
            d.symbol(16, 3);
            d.symbol(2, 2);
            d.symbol(16, 1);
            drawn(d, "1");
            d.symbol(1, 2);
            d.symbol(1, 1);
            d.symbol(16, 3);
        }, due.number(7));
    }

    private static void bases(int kind) {
        Due.sentence("Terms", "a bit: whether it has a base");
        BitRow due = new BitRow().numbers(3, 1);
        due.symbol(kind, 3, "100", "011");
        due.refined(kind, 0, 0, 0, 0, "000", "000");
        due.symbol(kind, 0, "100", "011").bit(0);
        dueBytes("one of three has a base", kind, d -> {
            for (int i = 0; i < 3; i++) {
                drawn(d, "100", "011");
                d.refined(i, i - 1, 0, 0);
            }
            d.refined(2, NONE, 0, 0);
        }, due.number(3));
    }

    private static void placesBetween(int kind) {
        Due.sentence("Terms", "if so, how many symbols it comes behind the base in the order, less 1, a number");
        int[] some = {0, 1, 37, 38};
        for (int between : some) {
            BitRow due = new BitRow().numbers(40, 0);
            for (int i = 0; i < 39; i++) {
                due.symbol(kind, i == 0 ? 1 : 0, "0");
            }
            due.refined(kind, 1, between, 0, 0, "00").bit(0);
            dueBytes(between + " between", kind, d -> {
                // The last in the order has the first number, so that numbers do not do for places.
                d.symbol(2, 1);
                for (int i = 0; i < 39; i++) {
                    d.symbol(1, 1);
                }
                d.refined(0, 39 - between, 0, 0);
            }, due.number(40));
        }
    }

    private static void shifts(int kind) {
        Due.sentence("Terms", "and DX and 4, and DY and 4, four bits each, the highest first");
        String[] shown = {"0000", "0001", "0010", "0011", "0100", "0101", "0110", "0111", "1000"};
        for (int dx = -4; dx <= 4; dx++) {
            for (int dy = -4; dy <= 4; dy++) {
                int x = dx;
                int y = dy;
                BitRow due = new BitRow().numbers(2, 0).symbol(kind, 1, "0");
                due.bit(1).number(0).bit(1).number(0).text(shown[dx + 4]).text(shown[dy + 4]).plane(kind, true, "0").bit(0);
                dueBytes("shift " + dx + " " + dy, kind, d -> {
                    d.symbol(1, 1);
                    d.symbol(1, 1);
                    d.refined(1, 0, x, y);
                }, due.number(2));
            }
        }
    }

    private static void planeRowByRow(int kind) {
        Due.sentence("Terms", "then its PLANE: each sample (1 for black), row by row");
        String[][] planes = {{"1"}, {"0"}, {"10", "00"}, {"01", "00"}, {"00", "10"}, {"00", "01"}, lines("1".repeat(16), 16), WHITE};
        for (String[] plane : planes) {
            BitRow due = new BitRow().numbers(1, plane.length - 1).symbol(kind, plane[0].length(), plane);
            dueBytes(Arrays.toString(plane), kind, d -> drawn(d, plane), due.bit(0).number(1));
        }
    }

    private static void planeOverBase(int kind) {
        Due.sentence("Terms", "but with a base: whether it differs from the base's sample DX to the left and DY above its place");
        String[] base = {"11000", "10010", "00001", "01010", "11111"};
        String[] symbol = {"10110", "01101", "11010", "00111", "10001"};
        for (int dx = -4; dx <= 4; dx++) {
            for (int dy = -4; dy <= 4; dy++) {
                dueOverBase(kind, base, symbol, dx, dy);
            }
        }
    }

    private static void dueOverBase(int kind, String[] base, String[] symbol, int dx, int dy) {
        String[] plane = new String[symbol.length];
        for (int y = 0; y < symbol.length; y++) {
            plane[y] = "";
            for (int x = 0; x < symbol[0].length(); x++) {
                plane[y] += symbol[y].charAt(x) == sample(base, x - dx, y - dy) ? '0' : '1';
            }
        }
        BitRow due = new BitRow().number(2).number(base.length - 1).symbol(kind, base[0].length(), base);
        int wider = symbol[0].length() - base[0].length();
        if (base.length < symbol.length) {
            due.bit(0).number(symbol.length - base.length - 1);
            wider = symbol[0].length();
        }
        due.refined(kind, wider, 0, dx, dy, plane).bit(0).number(2);
        dueBytes("shift " + dx + " " + dy, kind, d -> {
            drawn(d, base);
            drawn(d, symbol);
            d.refined(1, 0, dx, dy);
        }, due);
    }

    private static char sample(String[] rows, int x, int y) {
        return x < 0 || y < 0 || y >= rows.length || x >= rows[0].length() ? '0' : rows[y].charAt(x);
    }

    private static void baseAsItIsNow(int kind) {
        Due.sentence("Terms", "whether it differs from the base's sample");
        BitRow due = new BitRow().numbers(2, 0).symbol(kind, 3, "011").refined(kind, 0, 0, 0, 0, "100").bit(0).number(2);
        dueBytes("the base is changed later", kind, d -> {
            drawn(d, "111");
            drawn(d, "111");
            d.refined(1, 0, 0, 0);
            d.put(0, 0, 0, false);
        }, due);
    }

    private static void baseWithABase(int kind) {
        Due.sentence("Terms", "whether it differs from the base's sample");
        BitRow due = new BitRow().numbers(3, 0).symbol(kind, 4, "1100");
        due.refined(kind, 0, 0, 1, 0, "1100").refined(kind, 0, 0, 1, 0, "1010").bit(0).number(3);
        Consumer<Counted> made = d -> {
            drawn(d, "1100");
            drawn(d, "1010");
            drawn(d, "1111");
            d.refined(1, 0, 1, 0);
            d.refined(2, 1, 1, 0);
        };
        dueBytes("its samples, not its plane", kind, made, due);
        Alike back = new Alike(() -> {
            Counted d = new Counted(kind);
            made.accept(d);
            d.write();
            d.pass();
            d.read();
            return d;
        });
        Due.same("read back", back.samples(0) + " " + back.samples(1) + " " + back.samples(2), "1100 1010 1111");
    }

    private static void whiteOutsideOfTheBase(int kind) {
        Due.sentence("Terms", "(white outside of that)");
        String[] small = {"1"};
        String[] wideAndLow = {"1".repeat(16)};
        String[] narrowAndHigh = lines("0", 16);
        String[] all = lines("1".repeat(16), 16);
        int[] ends = {-4, -1, 0, 1, 4};
        for (int dx : ends) {
            for (int dy : ends) {
                dueOverBase(kind, small, new String[] {"000", "000", "000"}, dx, dy);
                dueOverBase(kind, small, all, dx, dy);
                dueOverBase(kind, wideAndLow, narrowAndHigh, dx, dy);
                dueOverBase(kind, all, WHITE, dx, dy);
            }
        }
    }

    private static void endOfHeight(int kind) {
        Due.sentence("Terms", "Behind the last one of that height a bit 0.");
        BitRow due = new BitRow().number(3);
        due.number(0).symbol(kind, 1, "0").symbol(kind, 0, "0").bit(0);
        due.number(14).symbol(kind, 1, lines("0", 16)).bit(0);
        dueBytes("two heights", kind, d -> {
            d.symbol(1, 1);
            d.symbol(1, 1);
            d.symbol(1, 16);
        }, due.number(3));
    }

    private static void exports(int kind) {
        Due.sentence("Terms", "how many come that are not exported, a number; how many come behind these that are exported, "
            + "a number, if any are left (so that the last one of all these ends with the last symbol)");
        String[] exported = {"0", "1", "00", "11", "01", "10", "0110", "1001", "1110001", "0001110", "01".repeat(20), "10".repeat(20),
            "0".repeat(40), "1".repeat(40), "0".repeat(39) + "1", "1" + "0".repeat(39)};
        for (String on : exported) {
            BitRow due = new BitRow().number(on.length()).number(0);
            for (int i = 0; i < on.length(); i++) {
                due.symbol(kind, i == 0 ? 1 : 0, "0");
            }
            due.bit(0);
            if (on.charAt(0) == '1') {
                due.number(0);
            }
            for (String alike : on.split("(?<=0)(?=1)|(?<=1)(?=0)")) {
                due.number(alike.length());
            }
            dueBytes("exported " + on, kind, d -> {
                for (int i = 0; i < on.length(); i++) {
                    d.symbol(1, 1);
                    d.export(i, on.charAt(i) == '1');
                }
            }, due);
        }
        BitRow byOrder = new BitRow().number(2).number(0).symbol(kind, 1, "0").symbol(kind, 1, "00").bit(0).numbers(1, 1);
        dueBytes("in order, not by number", kind, d -> {
            d.symbol(2, 1);
            d.symbol(1, 1);
            d.export(0, true);
        }, byOrder);
    }

    private static void noExportsOfNothing(int kind) {
        Due.sentence("Terms", "Then, as long as symbols are left, in order");
        Counted d = new Counted(kind);
        Due.is("bytes of no symbols", kind == 2 ? 2 : 1, d::write);
        Due.is("the first", kind == 2 ? 0 : 128, () -> d.byteAt(0));
    }

    private static void runs() {
        Due.sentence("Terms", "1: runs: how many 0 come, a number, then how many 1, and so on, till all is told");
        String[] planes = {"0", "1", "00", "11", "01", "10", "010", "101", "0110", "1001", "0000000000000001", "1000000000000000"};
        String[] told = {"1", "0 1", "2", "0 2", "1 1", "0 1 1", "1 1 1", "0 1 1 1", "1 2 1", "0 1 2 1", "15 1", "0 1 15"};
        for (int i = 0; i < planes.length; i++) {
            String plane = planes[i];
            BitRow due = new BitRow().numbers(1, 0).bit(1).number(plane.length()).bit(0);
            for (String n : told[i].split(" ")) {
                due.number(Integer.parseInt(n));
            }
            dueBytes("plane " + plane, 1, d -> drawn(d, plane), due.bit(0).number(1));
        }
        BitRow overRows = new BitRow().numbers(1, 1).bit(1).number(2).bit(0).numbers(1, 2, 1).bit(0).number(1);
        dueBytes("a run over the end of a row", 1, d -> drawn(d, "01", "10"), overRows);
    }

    private static void runsAtTheirLongest() {
        Due.sentence("Terms", "what would be more than 510 at a time is impossible");
        BitRow white = new BitRow().numbers(1, 15).bit(1).number(16).bit(0).number(256).bit(0).number(1);
        dueBytes("all white", 1, d -> d.symbol(16, 16), white);
        BitRow black = new BitRow().numbers(1, 15).bit(1).number(16).bit(0).numbers(0, 256).bit(0).number(1);
        dueBytes("all black", 1, d -> drawn(d, lines("1".repeat(16), 16)), black);
    }

    private static void fullBytes() {
        Due.sentence("Terms", "BYTES of kinds 0 and 1: eight bits each, the highest first; the last one is filled with 0.");
        // A row of black samples, so wide, as kind 0 tells it: 21, 24 and 25 bits, so that 3, 0 and 7 are filled.
        int[] widths = {6, 7, 8};
        int[][] due = {{0b01011001, 0b11011111, 0b10010000}, {0b01011000, 0b10000111, 0b11110010},
            {0b01011000, 0b10010111, 0b11111001, 0}};
        for (int i = 0; i < widths.length; i++) {
            String row = "1".repeat(widths[i]);
            dueLiteral(row, 0, due[i]);
        }
        // Runs: 010 1 1 00101 0, then 0 and 1 1 1 1, then 0 010: 28 bits. White: 010 1 1 00101 0 00101 0 010: 20 bits.
        dueLiteral("1010", 1, 0b01011001, 0b01010100, 0b10010010, 0b00100000);
        dueLiteral("0000", 1, 0b01011001, 0b01000101, 0b00100000);
        for (int kind = 0; kind <= 1; kind++) {
            Counted empty = new Counted(kind);
            empty.write();
            Due.is("a single bit", 0b10000000, () -> empty.byteAt(0));
        }
    }

    private static void dueLiteral(String row, int kind, int... due) {
        Counted d = new Counted(kind);
        drawn(d, row);
        Due.is(row + ": bytes", due.length, d::write);
        for (int i = 0; i < due.length; i++) {
            int at = i;
            Due.is(row + ": byte " + i, due[i], () -> d.byteAt(at));
        }
    }

    private static void bitByBit() {
        Due.sentence("Terms", "0: bit by bit.");
        BitRow due = new BitRow().text("010 010 1 00100 0 101010 0 010");
        dueBytes("samples as they are", 0, d -> drawn(d, "101", "010"), due);
    }

    private static void bitByBitWithChances() {
        Due.sentence("Terms", "2: bit by bit, each with its CHANCE.");
        // Every row of up to four samples, so that each bit is once 0 and once 1 behind the same ones.
        for (int width = 1; width <= 4; width++) {
            for (int bits = 0; bits < 1 << width; bits++) {
                String row = Integer.toBinaryString(1 << width | bits).substring(1);
                BitRow due = new BitRow().numbers(1, 0).symbol(2, width, row).bit(0).number(1);
                dueBytes("row " + row, 2, d -> drawn(d, row), due);
            }
        }
    }

    private static void chancesOutsideOfPlanes() {
        Due.sentence("Terms", "Kind 2: every bit has a chance p (of being 1): 32768");
        // All but the planes goes by even chances, also where the planes have taught others.
        BitRow due = new BitRow().number(12).number(15);
        for (int i = 0; i < 12; i++) {
            due.symbol(2, i == 0 ? 16 : 0, WHITE);
        }
        due.bit(0).number(0);
        for (int i = 0; i < 12; i++) {
            due.number(1);
        }
        dueBytes("white symbols", 2, d -> {
            for (int i = 0; i < 12; i++) {
                d.symbol(16, 16);
                d.export(i, i % 2 == 0);
            }
        }, due);
    }

    private static void contextsOutside() {
        Due.sentence("Terms", "for 1 in the plane to the left, above to the left, above, above to the right (0 outside)");
        String[][] planes = {{"1111", "0000"}, {"0001", "0000", "0001"}, {"1000", "0000", "1000"}, {"1", "0", "1"}, {"1001", "1001"},
            lines("1" + "0".repeat(14) + "1", 16), lines("0".repeat(15) + "1", 16), lines("1" + "0".repeat(15), 16)};
        for (String[] plane : planes) {
            BitRow due = new BitRow().numbers(1, plane.length - 1).symbol(2, plane[0].length(), plane);
            dueBytes(Arrays.toString(plane), 2, d -> drawn(d, plane), due.bit(0).number(1));
        }
    }

    private static void everyContext() {
        Due.sentence("Terms", "but in planes that of its CONTEXT, which is 16 (if there is a base; else 0) and 8, 4, 2, 1");
        // Every number of four bits stands somewhere in these rows as what is to the left and above.
        String[] noise = {"0100110101111000", "1101001011100010", "0011101000101101", "1000011110110100", "0111001101011010"};
        boolean[] seen = new boolean[32];
        for (int y = 0; y < noise.length; y++) {
            for (int x = 0; x < 16; x++) {
                seen[BitRow.context(false, noise, x, y)] = true;
                seen[BitRow.context(true, noise, x, y)] = true;
            }
        }
        for (int context = 0; context < 32; context++) {
            int c = context;
            Due.is("the rows have context " + c, true, () -> seen[c]);
        }
        BitRow due = new BitRow().numbers(4, 4).symbol(2, 16, noise);
        due.refined(2, 0, 0, 0, 0, noise).refined(2, 0, 1, 0, 0, noise).symbol(2, 0, noise);
        dueBytes("with and without a base", 2, d -> {
            drawn(d, noise);
            d.symbol(16, 5);
            d.symbol(16, 5);
            drawn(d, noise);
            d.refined(1, 0, 0, 0);
            d.refined(2, 0, 0, 0);
        }, due.bit(0).number(4));
    }

    private static void chancesEvenAtFirst() {
        Due.sentence("Terms", "each 32768 at first");
        String[] black = lines("1".repeat(16), 16);
        BitRow due = new BitRow().numbers(1, 15).symbol(2, 16, black).bit(0).number(1);
        dueBytes("written a second time", 2, d -> {
            drawn(d, black);
            d.write();
        }, due);
        dueBytes("written behind a reading", 2, d -> {
            drawn(d, black);
            d.write();
            d.pass();
            d.read();
        }, due);
    }

    /** So many samples alike that the chance taken is brought to its bounds, and then the other way. */
    private static void chancesAtTheirEnds() {
        Due.sentence("Terms", "but the chance taken is brought to 64 .. 65472");
        for (int colour = 0; colour <= 1; colour++) {
            String[] alike = lines(String.valueOf(colour).repeat(16), 16);
            String[] oneOther = alike.clone();
            oneOther[8] = oneOther[8].substring(0, 8) + (1 - colour) + oneOther[8].substring(9);
            BitRow due = new BitRow().numbers(9, 15).symbol(2, 16, alike);
            for (int i = 0; i < 7; i++) {
                due.symbol(2, 0, alike);
            }
            long chance = due.interval().chance(colour * 15);
            Due.is("the test brings it beyond the bounds", true, () -> chance < 64 || chance > 65472);
            dueBytes("all " + colour, 2, d -> {
                for (int i = 0; i < 8; i++) {
                    drawn(d, alike);
                }
                drawn(d, oneOther);
            }, due.symbol(2, 0, oneOther).bit(0).number(9));
        }
    }

    private static void chancesRoundDown() {
        Due.sentence("Terms", "behind each bit it is more by (65535 less it) / 16 for 1, less by it / 16 for 0, downward");
        // Rows of one sample have two contexts; each run of so many samples takes their chances another way.
        for (int length = 1; length <= 15; length++) {
            String[] plane = (("0" + "\n").repeat(length) + ("1" + "\n").repeat(16 - length)).split("\n");
            BitRow due = new BitRow().numbers(2, 15).symbol(2, 1, plane).symbol(2, 0, plane).bit(0).number(2);
            dueBytes(length + " white", 2, d -> {
                drawn(d, plane);
                drawn(d, plane);
            }, due);
        }
    }

    private static void splitsRoundDown() {
        Due.sentence("Terms", "There is an interval LOW .. HIGH, 0 .. 2^32 - 1 at first; SPLIT is LOW and (HIGH - LOW) p / 65536, "
            + "downward; for 1, HIGH is SPLIT, for 0, LOW is SPLIT + 1");
        // Long planes without any rule: a number off by one anywhere shows in the bytes behind it.
        String[] noise = {"0100110101111000", "1101001011100010", "0011101000101101", "1000011110110100", "0111001101011010"};
        for (int from = 0; from < noise.length; from++) {
            String[] rows = new String[15];
            for (int y = 0; y < rows.length; y++) {
                rows[y] = noise[(from + y + y / 5) % 5];
            }
            BitRow due = new BitRow().numbers(2, 14).symbol(2, 16, rows).symbol(2, 0, rows).bit(0).number(2);
            dueBytes("noise " + from, 2, d -> {
                drawn(d, rows);
                drawn(d, rows);
            }, due);
        }
    }

    /** Samples that keep the interval across a change of the highest byte, till it is one number wide. */
    private static void manyBytesAtOnce() {
        Due.sentence("Terms", "as long as the highest bytes of both (of four) are the same, that byte is put out, and both are "
            + "shifted by 8 bits, HIGH with bits 1");
        BitRow front = new BitRow().numbers(1, 15).bit(1).number(16).bit(0);
        Interval interval = front.interval();
        String[] rows = lines("", 16);
        int most = 0;
        for (int i = 0; i < 256; i++) {
            int x = i % 16;
            int y = i / 16;
            int context = BitRow.context(false, rows, x, y);
            Interval behindOne = interval.copy();
            behindOne.put(1, context);
            int bit = behindOne.bytes.size() == interval.bytes.size() ? 1 : 0;
            int before = interval.bytes.size();
            interval.put(bit, context);
            most = Math.max(most, interval.bytes.size() - before);
            rows[y] += bit;
        }
        int atOnce = most;
        Due.is("the test puts out all four at once", 4, () -> atOnce);
        BitRow due = new BitRow().numbers(1, 15).symbol(2, 16, rows).bit(0).number(1);
        dueBytes("across a change of the highest byte", 2, d -> drawn(d, rows), due);
        Alike back = new Alike(() -> {
            Counted d = new Counted(2);
            drawn(d, rows);
            d.write();
            d.pass();
            d.row(0, 15, 0);
            d.read();
            return d;
        });
        Due.same("read back", back.samples(0), String.join("", rows));
    }

    private static void endOfTheInterval() {
        Due.sentence("Terms", "At the end the highest two bytes of LOW + 65535 are put out.");
        boolean[] met = new boolean[3];
        for (int width = 1; width <= 9; width++) {
            for (int bits = 0; bits < 1 << width; bits++) {
                String row = Integer.toBinaryString(1 << width | bits).substring(1);
                BitRow due = new BitRow().numbers(1, 0).symbol(2, width, row).bit(0).number(1);
                long low = due.interval().low();
                int which = (low + 65535) >> 24 != low >> 24 ? 0 : (low & 65535) == 0 ? 1 : 2;
                if (!met[which] || bits % 64 == 0) {
                    dueBytes("row " + row, 2, d -> drawn(d, row), due);
                }
                met[which] = true;
            }
        }
        Due.is("the test has an end with the highest byte one more", true, () -> met[0]);
        Due.is("the test has an end with two bytes 0 behind", true, () -> met[1]);
        dueBytes("LOW is 0", 2, d -> { }, new BitRow().number(0));
        // Found by trying: of all that take the second byte one up, LOW ends here in the least, 1.
        BitRow least = new BitRow().numbers(1, 1).symbol(2, 9, "000111011", "100011111").bit(0).numbers(0, 1);
        Due.is("the test's LOW ends in 1", 1, () -> least.interval().low() & 65535);
        dueBytes("LOW ends in 1", 2, d -> d.export(drawn(d, "000111011", "100011111"), true), least);
    }

    private static void howManyBytes(int kind) {
        Due.sentence("Promise 8", "The dictionary is written: how many bytes.");
        Counted d = new Counted(kind);
        int empty = kind == 2 ? 2 : 1;
        Due.is("nothing", empty, d::write);
        Due.is("count", empty, () -> d.count(1));
        d.symbol(16, 16);
        BitRow one = new BitRow().numbers(1, 15).symbol(kind, 16, WHITE).bit(0).number(1);
        Due.is("a symbol", one.bytes(kind).length, d::write);
        Due.is("again", one.bytes(kind).length, d::write);
        Due.is("count", one.bytes(kind).length, () -> d.count(1));
        Due.is("the dictionary is as before", 1, () -> d.count(0));
        d.clear();
        Due.is("nothing again", empty, d::write);
        largest(kind);
    }

    private static void writtenAgain(int kind) {
        Due.sentence("Promise 8", "The dictionary is written");
        BitRow due = new BitRow().number(3).number(0).symbol(kind, 1, "0").bit(0);
        due.number(0).symbol(kind, 2, "11", "00").symbol(kind, 0, "00", "01").bit(0).numbers(2, 1);
        dueBytes("three symbols, written after each", kind, d -> {
            drawn(d, "11", "00");
            d.write();
            drawn(d, "00", "01");
            d.export(1, true);
            d.write();
            drawn(d, "1");
            d.write();
            d.put(2, 0, 0, false);
        }, due);
    }

    private static void writingChangesNothing(int kind) {
        Due.sentence("Promise 8", "The dictionary is written");
        Consumer<Counted> made = d -> {
            drawn(d, "11", "10");
            drawn(d, "1");
            drawn(d, "01", "10");
            d.refined(2, 0, -1, 1);
            d.export(1, true);
            d.classes(2);
            d.feed(1);
        };
        Alike before = new Alike(() -> {
            Counted d = new Counted(kind);
            made.accept(d);
            return d;
        });
        Alike behind = new Alike(() -> {
            Counted d = new Counted(kind);
            made.accept(d);
            d.write();
            return d;
        });
        Due.same("symbols", behind.symbols(), before.symbols());
        Due.is("to be read", 1, () -> behind.one().count(2));
    }

    /** Forty boards of the largest size, one in samples and the others over it: the most bytes that kind 1 makes. */
    private static void largest(int kind) {
        String[] board = lines("10".repeat(8), 16);
        BitRow due = new BitRow().numbers(40, 15).symbol(kind, 16, board);
        for (int i = 1; i < 40; i++) {
            due.refined(kind, 0, i - 1, 0, 0, board);
        }
        due.bit(0).number(0);
        for (int i = 0; i < 40; i++) {
            due.number(1);
        }
        dueBytes("forty boards", kind, d -> {
            drawn(d, board);
            d.export(0, true);
            for (int i = 1; i < 40; i++) {
                d.symbol(16, 16);
                d.refined(i, 0, 0, 0);
                d.export(i, i % 2 == 0);
            }
        }, due);
    }

    private static void writtenLast(int kind) {
        Due.sentence("Promise 9", "A byte of what was written last.");
        Counted d = new Counted(kind);
        Due.index("nothing written", () -> d.byteAt(0));
        d.symbol(16, 16);
        Due.index("a symbol is not written by itself", () -> d.byteAt(0));
        int bytes = d.write();
        int[] wrong = {-1, bytes, bytes + 1, Integer.MIN_VALUE, Integer.MAX_VALUE};
        for (int i : wrong) {
            Due.index("byte " + i, () -> d.byteAt(i));
        }
        int first = d.byteAt(0);
        int last = d.byteAt(bytes - 1);
        d.row(0, 0, -1);
        d.symbol(3, 3);
        d.feed(9);
        d.read();
        Due.is("it stays till the next", bytes, () -> d.count(1));
        Due.is("its first byte", first, () -> d.byteAt(0));
        Due.is("its last byte", last, () -> d.byteAt(bytes - 1));
        d.clear();
        Due.index("nothing is written behind clear()", () -> d.byteAt(0));
        int shorter = d.write();
        Due.is("the last of a shorter one", kind == 2 ? 0 : 128, () -> d.byteAt(shorter - 1));
        Due.index("no more of the longer one", () -> d.byteAt(shorter));
    }

    private static void bytesAtTheirEnds(int kind) {
        Due.sentence("Promise 9", "A byte of what was written last.");
        String[] noise = {"1111111111111111", "0100110101111000", "0000000000000000", "0011101000101101", "1000011110110100"};
        boolean[] highest = new boolean[1];
        for (int width = 1; width <= 16; width++) {
            String[] rows = new String[noise.length];
            for (int y = 0; y < rows.length; y++) {
                rows[y] = noise[y].substring(0, width);
            }
            BitRow due = new BitRow().numbers(1, 4).symbol(kind, width, rows).bit(0).number(1);
            highest[0] |= Arrays.stream(due.bytes(kind)).anyMatch(b -> b >= 128);
            dueBytes("noise " + width, kind, d -> drawn(d, rows), due);
        }
        Due.is("the test has bytes above 127", true, () -> highest[0]);
    }
}
