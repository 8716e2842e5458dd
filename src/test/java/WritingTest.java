import java.util.Arrays;

/** Promises 8 and 9: what is written, bit by bit, in each kind. */
public final class WritingTest {
    public static void main(String[] args) {
        plainBits();
        for (int kind = 0; kind <= 2; kind++) {
            empty(kind);
            classesOfHeight(kind);
            bases(kind);
            shiftsAndEdges(kind);
            exports(kind);
            runsOfAllLengths(kind);
            largest(kind);
            byteAt(kind);
        }
        chancesAtTheirEnds();
        Due.end();
    }

    private static void dueBytes(String what, SymbolDictionaries d, int[] due) {
        Due.is(what + ": bytes", due.length, d::write);
        int[] got = new int[d.count(1)];
        for (int i = 0; i < got.length; i++) {
            got[i] = d.byteAt(i);
        }
        Due.same(what, Arrays.toString(got), Arrays.toString(due));
    }

    /** Every bit of one writing spelled out, so that nothing rests on what the tests share. */
    private static void plainBits() {
        SymbolDictionaries d = new SymbolDictionaries(0);
        d.symbol(2, 2);
        d.symbol(1, 1);
        d.row(0, 0, 0b01);
        d.row(0, 1, 0b11);
        d.row(1, 0, 1);
        d.refined(0, 1, 1, -1);
        d.export(0, true);
        // 2 symbols; height 1; one more, 1 wide, no base, black; end; height 2; one more, 2 wide, base 0 behind,
        // 1 + 4, -1 + 4; plane 10 11 (the base is above); end; 1 not exported, 1 exported.
        String bits = "011 1 1 010 0 1 0" + "1 1 011 1 1 0101 0011 1011 0" + "010 010";
        dueBytes("spelled out", d, new BitRow().text(bits).bytes(0));
    }

    private static void empty(int kind) {
        SymbolDictionaries d = new SymbolDictionaries(kind);
        dueBytes("empty", d, kind == 2 ? new int[] {0, 0} : new int[] {128});
    }

    private static void classesOfHeight(int kind) {
        SymbolDictionaries d = new SymbolDictionaries(kind);
        int[][] sizes = {{16, 16}, {2, 1}, {1, 3}, {7, 3}, {7, 3}};
        for (int[] size : sizes) {
            d.symbol(size[0], size[1]);
        }
        d.put(3, 6, 2, true);
        d.put(4, 0, 0, true);
        String[] white = new String[16];
        Arrays.fill(white, "0".repeat(16));
        BitRow due = new BitRow().number(5);
        due.number(0).bit(1).number(2).bit(0).plane(kind, false, "00").bit(0);
        due.number(1).bit(1).number(1).bit(0).plane(kind, false, "0", "0", "0");
        due.bit(1).number(6).bit(0).plane(kind, false, "0000000", "0000000", "0000001");
        due.bit(1).number(0).bit(0).plane(kind, false, "1000000", "0000000", "0000000").bit(0);
        due.number(12).bit(1).number(16).bit(0).plane(kind, false, white).bit(0);
        due.number(5);
        dueBytes("classes", d, due.bytes(kind));
    }

    private static void bases(int kind) {
        SymbolDictionaries d = new SymbolDictionaries(kind);
        for (int i = 0; i < 3; i++) {
            d.symbol(3, 2);
            d.row(i, 0, 0b001);
            d.row(i, 1, 0b110);
        }
        d.put(2, 0, 1, true);
        d.refined(1, 0, 0, 0);
        d.refined(2, 0, 0, 0);
        BitRow due = new BitRow().number(3).number(1);
        due.bit(1).number(3).bit(0).plane(kind, false, "100", "011");
        due.bit(1).number(0).bit(1).number(0).fourBits(4).fourBits(4).plane(kind, true, "000", "000");
        due.bit(1).number(0).bit(1).number(1).fourBits(4).fourBits(4).plane(kind, true, "000", "100").bit(0);
        due.number(3);
        dueBytes("bases", d, due.bytes(kind));
        d.put(0, 0, 0, false);
        due = new BitRow().number(3).number(1);
        due.bit(1).number(3).bit(0).plane(kind, false, "000", "011");
        due.bit(1).number(0).bit(1).number(0).fourBits(4).fourBits(4).plane(kind, true, "100", "000");
        due.bit(1).number(0).bit(1).number(1).fourBits(4).fourBits(4).plane(kind, true, "100", "100").bit(0);
        due.number(3);
        dueBytes("a base as it is now", d, due.bytes(kind));
    }

    private static void shiftsAndEdges(int kind) {
        String[][] planes = {{"1100", "1000", "0000"}, {"0110", "0100", "0000"}, {"0000", "0011", "0010"}};
        int[][] shifts = {{0, 0}, {1, 0}, {2, 1}};
        for (int i = 0; i < shifts.length; i++) {
            oneShift(kind, shifts[i][0], shifts[i][1], planes[i]);
        }
        oneShift(kind, -1, -1, new String[] {"0000", "0000", "0000"});
        oneShift(kind, -1, 0, new String[] {"1000", "0000", "0000"});
        oneShift(kind, 0, -1, new String[] {"1000", "0000", "0000"});
        oneShift(kind, 4, 4, new String[] {"0000", "0000", "0000"});
        oneShift(kind, -4, -4, new String[] {"0000", "0000", "0000"});
        oneShift(kind, 3, 2, new String[] {"0000", "0000", "0001"});
    }

    /** A white symbol, 4 by 3, over the base 11, 10: the plane is the base where it falls. */
    private static void oneShift(int kind, int dx, int dy, String[] plane) {
        SymbolDictionaries d = new SymbolDictionaries(kind);
        d.symbol(4, 3);
        d.symbol(2, 2);
        d.row(1, 0, 0b11);
        d.row(1, 1, 0b01);
        d.refined(0, 1, dx, dy);
        BitRow due = new BitRow().number(2);
        due.number(1).bit(1).number(2).bit(0).plane(kind, false, "11", "10").bit(0);
        due.number(0).bit(1).number(4).bit(1).number(0).fourBits(dx + 4).fourBits(dy + 4).plane(kind, true, plane).bit(0);
        due.number(2);
        dueBytes("shift " + dx + " " + dy, d, due.bytes(kind));
    }

    private static void exports(int kind) {
        String[] exported = {"0", "1", "00", "11", "01", "10", "0110", "1001", "1110001", "0001110"};
        int[][] numbers = {{1}, {0, 1}, {2}, {0, 2}, {1, 1}, {0, 1, 1}, {1, 2, 1}, {0, 1, 2, 1}, {0, 3, 3, 1}, {3, 3, 1}};
        for (int i = 0; i < exported.length; i++) {
            SymbolDictionaries d = new SymbolDictionaries(kind);
            BitRow due = new BitRow().number(exported[i].length()).number(0);
            for (int symbol = 0; symbol < exported[i].length(); symbol++) {
                d.symbol(1, 1);
                d.export(symbol, exported[i].charAt(symbol) == '1');
                due.bit(1).number(symbol == 0 ? 1 : 0).bit(0).plane(kind, false, "0");
            }
            due.bit(0);
            for (int n : numbers[i]) {
                due.number(n);
            }
            dueBytes("exported " + exported[i], d, due.bytes(kind));
        }
    }

    /** Planes of 16 by 16 with a run of each length, 0 to 256, in front. */
    private static void runsOfAllLengths(int kind) {
        for (int length = 0; length <= 256; length++) {
            SymbolDictionaries d = new SymbolDictionaries(kind);
            d.symbol(16, 16);
            String samples = "0".repeat(length) + "1".repeat(256 - length);
            String[] rows = new String[16];
            for (int y = 0; y < 16; y++) {
                rows[y] = samples.substring(16 * y, 16 * y + 16);
                d.row(0, y, bitsOf(rows[y]));
            }
            BitRow due = new BitRow().number(1).number(15).bit(1).number(16).bit(0).plane(kind, false, rows);
            dueBytes("run " + length, d, due.bit(0).number(1).bytes(kind));
        }
    }

    private static int bitsOf(String row) {
        return Integer.parseInt(new StringBuilder(row).reverse().toString(), 2);
    }

    /** Forty boards of the largest size: the longest writing of kind 1, above what may be passed. */
    private static void largest(int kind) {
        SymbolDictionaries d = new SymbolDictionaries(kind);
        String[] rows = new String[16];
        Arrays.fill(rows, "10".repeat(8));
        BitRow due = new BitRow().number(40).number(15);
        for (int i = 0; i < 40; i++) {
            d.symbol(16, 16);
            for (int y = 0; y < 16; y++) {
                d.row(i, y, bitsOf(rows[y]));
            }
            d.export(i, i % 2 == 0);
            due.bit(1).number(i == 0 ? 16 : 0).bit(0).plane(kind, false, rows);
        }
        due.bit(0).number(0);
        for (int i = 0; i < 40; i++) {
            due.number(1);
        }
        dueBytes("largest", d, due.bytes(kind));
        if (kind == 1) {
            Due.unsupported("above 3000", d::pass);
            Due.is("nothing passed", 0, () -> d.count(2));
        } else {
            Due.is("passed", d.count(1), d::pass);
            Due.is("read", 40, d::read);
            dueBytes("the same again", d, due.bytes(kind));
        }
    }

    private static void byteAt(int kind) {
        SymbolDictionaries d = new SymbolDictionaries(kind);
        Due.index("nothing written", () -> d.byteAt(0));
        d.symbol(16, 16);
        int bytes = d.write();
        int[] wrong = {-1, bytes, bytes + 1, Integer.MIN_VALUE, Integer.MAX_VALUE};
        for (int i : wrong) {
            Due.index("byte " + i, () -> d.byteAt(i));
        }
        long last = d.byteAt(bytes - 1);
        d.row(0, 0, -1);
        d.symbol(3, 3);
        d.feed(9);
        d.read();
        Due.is("what was written last stays till the next", bytes, () -> d.count(1));
        Due.is("its last byte", last, () -> d.byteAt(bytes - 1));
        d.clear();
        d.write();
        Due.is("a shorter one", kind == 2 ? 2 : 1, () -> d.count(1));
        Due.index("no more of the longer one", () -> d.byteAt(2));
    }

    /** So many samples alike that the chance taken is brought to its bounds, and then the other way. */
    private static void chancesAtTheirEnds() {
        for (int colour = 0; colour <= 1; colour++) {
            SymbolDictionaries d = new SymbolDictionaries(2);
            BitRow due = new BitRow().number(9).number(15);
            String[] rows = new String[16];
            Arrays.fill(rows, String.valueOf(colour).repeat(16));
            for (int i = 0; i < 9; i++) {
                if (i == 8) {
                    rows[8] = rows[8].substring(0, 8) + (1 - colour) + rows[8].substring(9);
                }
                d.symbol(16, 16);
                for (int y = 0; y < 16; y++) {
                    d.row(i, y, bitsOf(rows[y]));
                }
                due.bit(1).number(i == 0 ? 16 : 0).bit(0).plane(2, false, rows);
            }
            dueBytes("all " + colour, d, due.bit(0).number(9).bytes(2));
        }
    }
}
