/** Promises 10 to 12: what is to be read, and how it is read or refused. */
public final class ReadingTest {
    public static void main(String[] args) {
        feed();
        pass();
        lackingBits();
        emptyRunsAreFine();
        runsBeyondThePlane();
        endlessEmptyRuns();
        for (int kind = 0; kind <= 2; kind++) {
            readBack(kind);
            tooMany(kind);
            heights(kind);
            widths(kind);
            bases(kind);
            shifts(kind);
            exports(kind);
            longNumbers(kind);
            whatIsTooMuch(kind);
            refusedChangesNothing(kind);
            readAgain(kind);
        }
        Due.end();
    }

    private static void feed() {
        SymbolDictionaries d = new SymbolDictionaries(0);
        int[] wrong = {-1, 256, Integer.MIN_VALUE, Integer.MAX_VALUE};
        for (int b : wrong) {
            Due.argument("feed " + b, () -> d.feed(b));
        }
        for (int i = 1; i <= 3000; i++) {
            int b = i % 256;
            Due.is("feed " + i, i, () -> d.feed(b));
        }
        Due.unsupported("3000 are there", () -> d.feed(0));
        Due.argument("the first exception goes first", () -> d.feed(256));
        Due.is("3000", 3000, () -> d.count(2));
        d.read();
        Due.is("they went", 0, () -> d.count(2));
        Due.is("feed again", 1, () -> d.feed(255));
    }

    private static void pass() {
        SymbolDictionaries d = new SymbolDictionaries(0);
        Due.is("nothing written", 0, d::pass);
        d.symbol(1, 1);
        int bytes = d.write();
        Due.is("passed", bytes, d::pass);
        Due.is("passed again", 2 * bytes, d::pass);
        while (d.count(2) < 3000 - bytes) {
            d.feed(0);
        }
        Due.is("just 3000", 3000, d::pass);
        Due.unsupported("above 3000", d::pass);
        Due.is("still 3000", 3000, () -> d.count(2));
        Due.is("what is in front is read", 1, d::read);
        while (d.count(2) < 3001 - bytes) {
            d.feed(0);
        }
        Due.unsupported("one above 3000", d::pass);
        Due.is("nothing came behind", 3001 - bytes, () -> d.count(2));
        d.clear();
        while (d.count(2) < 3000) {
            d.feed(0);
        }
        Due.is("nothing to pass is not above 3000", 3000, d::pass);
    }

    private static int read(SymbolDictionaries d, BitRow bits, int kind) {
        for (int b : bits.bytes(kind)) {
            d.feed(b);
        }
        return d.read();
    }

    private static void due(String what, int kind, int due, BitRow bits) {
        SymbolDictionaries d = new SymbolDictionaries(kind);
        Due.is("kind " + kind + ": " + what, due, () -> read(d, bits, kind));
        Due.is("kind " + kind + ": " + what + ": symbols", Math.max(due, 0), () -> d.count(0));
    }

    private static void dueTold(SymbolDictionaries d, int symbol, int... due) {
        for (int what = 0; what < due.length; what++) {
            int w = what;
            Due.is("symbol " + symbol + ", told " + what, due[what], () -> d.told(symbol, w));
        }
    }

    private static void dueSamples(SymbolDictionaries d, int symbol, String... rows) {
        for (int y = 0; y < rows.length; y++) {
            for (int x = 0; x < rows[y].length(); x++) {
                int px = x;
                int py = y;
                Due.is("symbol " + symbol + " at " + x + " " + y, rows[y].charAt(x) - '0', () -> Due.of(d.at(symbol, px, py)));
            }
        }
    }

    private static void readBack(int kind) {
        SymbolDictionaries d = new SymbolDictionaries(kind);
        BitRow bits = new BitRow().number(3);
        bits.number(1).bit(1).number(3).bit(0).plane(kind, false, "101", "010");
        bits.bit(1).number(1).bit(1).number(0).fourBits(5).fourBits(4).plane(kind, true, "1000", "0000").bit(0);
        bits.number(0).bit(1).number(1).bit(1).number(1).fourBits(2).fourBits(5).plane(kind, true, "0", "1", "1").bit(0);
        bits.number(1).number(1).number(1);
        Due.is("kind " + kind, 3, () -> read(d, bits, kind));
        dueTold(d, 0, 3, 2, 3, 0, -1, 0, 0, 0);
        dueTold(d, 1, 4, 2, 4, 1, 0, 1, 0, 1);
        dueTold(d, 2, 1, 3, 1, 0, 0, -2, 1, 2);
        dueSamples(d, 0, "101", "010");
        dueSamples(d, 1, "1101", "0010");
        dueSamples(d, 2, "0", "0", "1");
        Due.is("nothing is to be read now", 0, () -> d.count(2));
        Due.is("nothing was written", 0, () -> d.count(1));
    }

    private static BitRow small(int kind, BitRow bits, int wider) {
        return bits.bit(1).number(wider).bit(0).plane(kind, false, "0");
    }

    private static void tooMany(int kind) {
        BitRow forty = new BitRow().number(40).number(0);
        for (int i = 0; i < 40; i++) {
            small(kind, forty, i == 0 ? 1 : 0);
        }
        due("40 symbols", kind, 40, forty.bit(0).number(40));
        due("41 symbols", kind, -1, new BitRow().number(41));
        due("510 symbols", kind, -1, new BitRow().number(510));
        due("no symbols", kind, 0, new BitRow().number(0));
        due("one more than told", kind, -1, small(kind, new BitRow().number(1).number(0), 1).bit(1).number(16));
        due("more than told goes before its width", kind, -1, small(kind, new BitRow().number(1).number(0), 1).bit(1).number(20));
        due("as told", kind, 1, small(kind, new BitRow().number(1).number(0), 1).bit(0).number(1));
    }

    private static void heights(int kind) {
        String[] high = new String[16];
        java.util.Arrays.fill(high, "0");
        due("16", kind, 1, new BitRow().number(1).number(15).bit(1).number(1).bit(0).plane(kind, false, high).bit(0).number(1));
        due("17", kind, -2, new BitRow().number(1).number(16).bit(1).number(1));
        due("17 goes before an empty class", kind, -2, new BitRow().number(1).number(16).bit(0));
        due("1 and 16 more", kind, -2, small(kind, new BitRow().number(2).number(0), 1).bit(0).number(15));
        due("empty class", kind, -2, new BitRow().number(1).number(0).bit(0).number(0).bit(1));
        due("empty second class", kind, -2, small(kind, new BitRow().number(2).number(0), 1).bit(0).number(0).bit(0));
    }

    private static void widths(int kind) {
        due("0", kind, -3, new BitRow().number(1).number(0).bit(1).number(0).bit(1).number(0));
        due("17", kind, -3, new BitRow().number(1).number(0).bit(1).number(17).bit(1).number(0));
        due("510", kind, -3, new BitRow().number(1).number(0).bit(1).number(510));
        due("1 and 16 more", kind, -3, small(kind, new BitRow().number(2).number(0), 1).bit(1).number(16));
        due("0 in the second class", kind, -3, small(kind, new BitRow().number(2).number(0), 1).bit(0).number(0).bit(1).number(0));
        BitRow widest = small(kind, new BitRow().number(2).number(0), 1).bit(1).number(15).bit(0);
        due("1 and 15 more", kind, 2, widest.plane(kind, false, "0".repeat(16)).bit(0).number(2));
    }

    private static void bases(int kind) {
        due("of the first", kind, -4, new BitRow().number(1).number(0).bit(1).number(1).bit(1).number(0).fourBits(15));
        BitRow two = small(kind, new BitRow().number(2).number(0), 1).bit(1).number(0).bit(1).number(1);
        due("before the first", kind, -4, two.fourBits(15));
        due("far before", kind, -4, small(kind, new BitRow().number(2).number(0), 1).bit(1).number(0).bit(1).number(510));
        BitRow fine = small(kind, new BitRow().number(2).number(0), 1).bit(1).number(0).bit(1).number(0);
        due("the first", kind, 2, fine.fourBits(4).fourBits(4).plane(kind, true, "0").bit(0).number(2));
    }

    private static void shifts(int kind) {
        for (int shift = 0; shift < 16; shift++) {
            BitRow dx = small(kind, new BitRow().number(2).number(0), 1).bit(1).number(0).bit(1).number(0);
            dx.fourBits(shift).fourBits(0).plane(kind, true, "1").bit(0).number(2);
            due("DX " + shift, kind, shift > 8 ? -5 : 2, dx);
            BitRow dy = small(kind, new BitRow().number(2).number(0), 1).bit(1).number(0).bit(1).number(0);
            dy.fourBits(8).fourBits(shift).plane(kind, true, "1").bit(0).number(2);
            due("DY " + shift, kind, shift > 8 ? -5 : 2, dy);
        }
    }

    private static BitRow withExports(int kind, int symbols, int... numbers) {
        BitRow bits = new BitRow().number(symbols).number(0);
        for (int i = 0; i < symbols; i++) {
            small(kind, bits, i == 0 ? 1 : 0);
        }
        bits.bit(0);
        for (int n : numbers) {
            bits.number(n);
        }
        return bits;
    }

    private static void exports(int kind) {
        int[][] fine = {{3}, {0, 3}, {1, 2}, {2, 1}, {1, 1, 1}, {0, 1, 2}, {0, 2, 1}, {0, 1, 1, 1}};
        String[] exported = {"000", "111", "011", "001", "010", "100", "110", "101"};
        for (int i = 0; i < fine.length; i++) {
            SymbolDictionaries d = new SymbolDictionaries(kind);
            BitRow bits = withExports(kind, 3, fine[i]);
            Due.is("exported " + exported[i], 3, () -> read(d, bits, kind));
            for (int symbol = 0; symbol < 3; symbol++) {
                int s = symbol;
                Due.is("exported " + exported[i], exported[i].charAt(s) - '0', () -> d.told(s, 3));
            }
        }
        int[][] refused = {{4}, {510}, {0, 4}, {0, 0, 3}, {1, 0, 2}, {1, 3}, {1, 1, 0, 1}, {1, 1, 2}, {0, 1, 0, 2}, {2, 0, 1}};
        for (int[] numbers : refused) {
            due("exports " + java.util.Arrays.toString(numbers), kind, -7, withExports(kind, 3, numbers));
        }
    }

    /** Nine bits 0 before the first 1, in each place where a number is due. */
    private static void longNumbers(int kind) {
        String nine = "000000000 1 000000001";
        due("symbols", kind, -8, new BitRow().text(nine));
        due("eight are fine there, but too many symbols", kind, -1, new BitRow().text("00000000 1 00000000"));
        due("height", kind, -8, new BitRow().number(1).text(nine));
        due("width", kind, -8, new BitRow().number(1).number(0).bit(1).text(nine));
        due("base", kind, -8, new BitRow().number(1).number(0).bit(1).number(1).bit(1).text(nine));
        due("exports", kind, -8, withExports(kind, 2).text(nine));
        due("second of the exports", kind, -8, withExports(kind, 2, 1).text(nine));
        if (kind == 1) {
            due("run", kind, -8, new BitRow().number(1).number(0).bit(1).number(1).bit(0).text(nine));
        }
    }

    private static void lackingBits() {
        Due.is("kind 0, nothing", -8, () -> new SymbolDictionaries(0).read());
        Due.is("kind 1, nothing", -8, () -> new SymbolDictionaries(1).read());
        Due.is("kind 2, nothing is a bit 1", 0, () -> new SymbolDictionaries(2).read());
        // The plane and the bit behind it lack, and so does the first number of the exports.
        due("the plane lacks", 0, -8, new BitRow().number(1).number(3).bit(1).number(9).bit(0));
        // The last bits 0 of 000010000 lack: there are 15 symbols, and a height of k above 8.
        due("a number's end lacks", 0, -8, new BitRow().text("00001000"));
        due("DX lacks, and counts as 0: -4", 0, -8, small(0, new BitRow().number(2).number(0), 1).bit(1).number(0).bit(1).number(0));
    }

    private static void emptyRunsAreFine() {
        SymbolDictionaries d = new SymbolDictionaries(1);
        BitRow bits = new BitRow().number(1).number(0).bit(1).number(4).bit(0);
        bits.number(1).number(0).number(1).number(0).number(0).number(2).bit(0).number(1);
        Due.is("runs 1 0 1 0 0 2", 1, () -> read(d, bits, 1));
        dueSamples(d, 0, "0011");
    }

    private static void runsBeyondThePlane() {
        BitRow[] refused = {new BitRow(), new BitRow(), new BitRow()};
        for (BitRow bits : refused) {
            bits.number(1).number(1).bit(1).number(2).bit(0);
        }
        due("0 too many", 1, -6, refused[0].number(5));
        due("1 too many", 1, -6, refused[1].number(3).number(2));
        due("far too many", 1, -6, refused[2].number(0).number(510));
    }

    /** As many runs of nothing as can be fed: the reading ends, refused for the number that lacks. */
    private static void endlessEmptyRuns() {
        SymbolDictionaries d = new SymbolDictionaries(1);
        BitRow bits = new BitRow().number(1).number(0).bit(1).number(1).bit(0);
        for (int i = 0; i < 23990; i++) {
            bits.number(0);
        }
        Due.is("empty runs", -8, () -> read(d, bits, 1));
    }

    private static void whatIsTooMuch(int kind) {
        SymbolDictionaries d = new SymbolDictionaries(kind);
        d.symbol(2, 1);
        d.write();
        d.pass();
        if (kind < 2) {
            d.feed(255);
            d.pass();
        } else {
            d.feed(0);
        }
        Due.is("the rest is passed over", 1, d::read);
        Due.is("and gone", 0, () -> d.count(2));
    }

    private static void refusedChangesNothing(int kind) {
        SymbolDictionaries d = new SymbolDictionaries(kind);
        d.symbol(3, 2);
        d.symbol(2, 2);
        d.row(0, 1, 0b101);
        d.export(0, true);
        d.refined(0, 1, -1, 2);
        int bytes = d.write();
        BitRow late = new BitRow().number(1).number(0).bit(1).number(1).bit(0).plane(kind, false, "1").bit(0).number(2);
        Due.is("refused at the end", -7, () -> read(d, late, kind));
        Due.is("symbols", 2, () -> d.count(0));
        dueTold(d, 0, 3, 2, 2, 1, 1, -1, 2, 1);
        dueTold(d, 1, 2, 2, 0, 0, -1, 0, 0, 0);
        dueSamples(d, 0, "000", "101");
        Due.is("what was written", bytes, () -> d.count(1));
        Due.is("what was to be read went", 0, () -> d.count(2));
        Due.is("the next symbol", 2, () -> d.symbol(1, 1));
        dueTold(d, 2, 1, 1, 0, 0, -1, 0, 0, 0);
    }

    /** What one reading leaves behind must not show in the next one. */
    private static void readAgain(int kind) {
        SymbolDictionaries d = new SymbolDictionaries(kind);
        BitRow black = new BitRow().number(2).number(1).bit(1).number(2).bit(0).plane(kind, false, "11", "11");
        black.bit(1).number(0).bit(1).number(0).fourBits(0).fourBits(8).plane(kind, true, "11", "11").bit(0).number(0).number(2);
        BitRow white = new BitRow().number(2).number(1).bit(1).number(2).bit(0).plane(kind, false, "00", "00");
        white.bit(1).number(0).bit(0).plane(kind, false, "00", "00").bit(0).number(2);
        for (int i = 0; i < 3; i++) {
            Due.is("black", 2, () -> read(d, black, kind));
            dueTold(d, 1, 2, 2, 4, 1, 0, -4, 4, 1);
            d.classes(0);
            Due.is("white", 2, () -> read(d, white, kind));
            dueTold(d, 0, 2, 2, 0, 0, -1, 0, 0, 0);
            dueTold(d, 1, 2, 2, 0, 0, -1, 0, 0, 1);
            Due.is("in no class", -1, () -> d.cls(1));
        }
    }
}
