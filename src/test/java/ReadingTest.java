import java.util.Arrays;
import java.util.function.Supplier;

/** Promises 10 to 12, and what the terms say of reading, in each kind: sentence by sentence. */
public final class ReadingTest {
    private static final int NONE = SymbolDictionaries.NONE;
    /** A number with nine bits 0 in front, one more than there may be. */
    private static final String NINE = "000000000 1 000000001";

    public static void main(String[] args) {
        bitsThatLack();
        bytesThatLack();
        aRunBeyondThePlane();
        runsOfNothing();
        for (int kind = 0; kind <= 2; kind++) {
            feedComesBehind(kind);
            feedOnlyBytes(kind);
            feedTill3000(kind);
            passComesBehind(kind);
            passTill3000(kind);
            readMakesTheDictionary(kind);
            readNumbersInOrder(kind);
            readGoesTheSameWay(kind);
            readGoes(kind);
            readTheLargest(kind);
            refusedByEach(kind);
            dictionaryStays(kind);
            nothingIsLeftBehind(kind);
            whatIsTooMuch(kind);
            refusedAtOnce(kind);
            tooManySymbols(kind);
            moreThanTold(kind);
            tooHigh(kind);
            classWithoutSymbols(kind);
            tooWide(kind);
            baseBeforeTheFirst(kind);
            shiftAboveFour(kind);
            exportsAsTold(kind);
            moreExportedThanLeft(kind);
            noneExportedButAtFirst(kind);
            numberTooLong(kind);
        }
        Due.end();
    }

    private static void feed(Counted d, int... bytes) {
        for (int b : bytes) {
            d.feed(b);
        }
    }

    private static int read(Counted d, int kind, BitRow bits) {
        feed(d, bits.bytes(kind));
        return d.read();
    }

    /** What a new object answers to these bits, read, and one used before; a refused one has no symbols. */
    private static void due(String what, int kind, int due, BitRow bits) {
        Counted[] both = {new Counted(kind), Counted.cleared(kind)};
        for (Counted d : both) {
            Due.is("kind " + kind + ", " + what, due, () -> read(d, kind, bits));
            Due.is("kind " + kind + ", " + what + ": symbols", Math.max(due, 0), () -> d.count(0));
        }
    }

    private static void refused(String what, int kind, int why, BitRow bits) {
        due(what, kind, -1 - why, bits);
    }

    /** So many symbols promised, of which one is told: 1 high and 1 wide. */
    private static BitRow oneOf(int kind, int howMany) {
        return new BitRow().numbers(howMany, 0).symbol(kind, 1, "0");
    }

    /** Symbols of 1 by 1, all told, up to where the exports begin. */
    private static BitRow small(int kind, int howMany) {
        BitRow bits = oneOf(kind, howMany);
        for (int i = 1; i < howMany; i++) {
            bits.symbol(kind, 0, "0");
        }
        return bits.bit(0);
    }

    private static String[] lines(String line, int howMany) {
        String[] lines = new String[howMany];
        Arrays.fill(lines, line);
        return lines;
    }

    private static void feedComesBehind(int kind) {
        Due.sentence("Promise 10", "A byte comes behind those that are to be read: how many.");
        Counted d = new Counted(kind);
        int[] bytes = small(kind, 3).numbers(0, 2, 1).bytes(kind);
        for (int i = 0; i < bytes.length; i++) {
            int b = bytes[i];
            Due.is("feed", i + 1, () -> d.feed(b));
            Due.is("count", i + 1, () -> d.count(2));
        }
        Due.is("read in the order in which they came", 3, d::read);
        Due.is("feed behind reading", 1, () -> d.feed(1));
    }

    private static void feedOnlyBytes(int kind) {
        Due.sentence("Promise 10", "IllegalArgument: it is not 0 .. 255.");
        Counted d = new Counted(kind);
        Due.is("the lowest", 1, () -> d.feed(0));
        Due.is("the highest", 2, () -> d.feed(255));
        int[] wrong = {-1, 256, -256, 512, Integer.MIN_VALUE, Integer.MAX_VALUE};
        for (int b : wrong) {
            Due.argument("feed " + b, () -> d.feed(b));
        }
        Due.is("two are there", 2, () -> d.count(2));
    }

    private static void feedTill3000(int kind) {
        Due.sentence("Promise 10", "UnsupportedOperation: there are 3000.");
        Counted d = Waiting.with(kind, 2999);
        Due.is("byte 3000", 3000, () -> d.feed(255));
        Due.unsupported("byte 3001", () -> d.feed(0));
        Due.unsupported("byte 3001 again", () -> d.feed(255));
        Due.is("3000 are there", 3000, () -> d.count(2));
        Due.is("what is in front is read", d.count(0), d::read);
        Due.is("there is room again", 1, () -> d.feed(0));
    }

    private static void passComesBehind(int kind) {
        Due.sentence("Promise 11", "What was written last comes behind those that are to be read: how many there are.");
        Counted d = new Counted(kind);
        Due.is("nothing was written", 0, d::pass);
        Due.is("feed", 1, () -> d.feed(9));
        Due.is("nothing was written, one is there", 1, d::pass);
        d.clear();
        d.symbol(2, 3);
        d.export(0, true);
        int bytes = d.write();
        Due.is("passed", bytes, d::pass);
        Due.is("passed again", 2 * bytes, d::pass);
        Due.is("what was written stays", bytes, () -> d.count(1));
        d.clear();
        Due.is("nothing is written behind clear()", 0, d::pass);
        Counted behind = new Counted(kind);
        behind.symbol(1, 1);
        int small = behind.write();
        behind.pass();
        behind.symbol(1, 1);
        behind.write();
        Due.is("the latest", small + behind.count(1), behind::pass);
        Due.is("the first is read, as it is in front", 1, behind::read);
        behind.pass();
        Due.is("then the latest", 2, behind::read);
    }

    private static void passTill3000(int kind) {
        Due.sentence("Promise 11", "UnsupportedOperation: above 3000.");
        int passed = Waiting.PASSED;
        Counted just = Waiting.with(kind, 3000 - passed);
        Due.is("just 3000", 3000, just::pass);
        Due.unsupported("far above", just::pass);
        Due.is("3000 are there", 3000, () -> just.count(2));
        Counted above = Waiting.with(kind, 3001 - passed);
        Due.unsupported("one above", above::pass);
        Due.is("none came", 3001 - passed, () -> above.count(2));
        Counted full = Waiting.with(kind, 3000);
        full.read();
        int bytes = full.count(1);
        Due.is("read, there is room again", bytes, full::pass);
        if (kind == 1) {
            tooLongByItself();
        }
    }

    /** Forty boards are more than 3000 bytes of kind 1. */
    private static void tooLongByItself() {
        Counted d = new Counted(1);
        d.symbol(16, 16);
        for (int y = 0; y < 16; y++) {
            d.row(0, y, 0x5555);
        }
        for (int i = 1; i < 40; i++) {
            d.symbol(16, 16);
            d.refined(i, 0, 0, 0);
        }
        Due.is("more than may be passed", true, () -> d.write() > 3000);
        Due.unsupported("pass", d::pass);
        Due.is("none came", 0, () -> d.count(2));
    }

    private static void readMakesTheDictionary(int kind) {
        Due.sentence("Promise 12", "What is to be read makes the dictionary");
        BitRow bits = new BitRow().number(3);
        bits.number(1).symbol(kind, 3, "101", "010").refined(kind, 1, 0, 1, 0, "1000", "0000").bit(0);
        bits.number(0).refined(kind, 1, 1, -2, 1, "0", "1", "1").bit(0).numbers(1, 1, 1);
        Alike d = new Alike(() -> {
            Counted made = new Counted(kind);
            made.symbol(9, 9);
            made.row(0, 0, -1);
            Due.is("kind " + kind, 3, () -> read(made, kind, bits));
            return made;
        });
        String due = "[3 2 3 0 -1 0 0 0 -1 101010]" + "[4 2 4 1 0 1 0 1 -1 11010010]" + "[1 3 1 0 0 -2 1 2 -1 001]";
        Due.same("kind " + kind + ", symbols", d.symbols(), due);
        Counted none = new Counted(kind);
        none.symbol(3, 3);
        Due.is("a dictionary of no symbols", 0, () -> read(none, kind, new BitRow().number(0)));
        Due.is("the former one is gone", 0, () -> none.count(0));
        Due.is("numbers begin again", 0, () -> none.symbol(1, 1));
    }

    private static void readNumbersInOrder(int kind) {
        Due.sentence("Promise 12", "numbers in the order in which they come");
        Alike d = new Alike(() -> {
            Counted made = new Counted(kind);
            int[][] sizes = {{5, 4}, {1, 16}, {4, 4}, {16, 1}, {4, 4}};
            for (int[] size : sizes) {
                int symbol = made.symbol(size[0], size[1]);
                made.put(symbol, 0, symbol == 3 ? 0 : 1, true);
                made.export(symbol, symbol % 2 == 0);
            }
            made.refined(1, 2, 4, -4);
            made.refined(4, 3, -1, 0);
            made.write();
            made.pass();
            made.read();
            return made;
        });
        String due = "[16 1 1 0 -1 0 0 0 -1 1000000000000000]" + "[4 4 1 1 -1 0 0 1 -1 0000100000000000]"
            + "[4 4 1 1 0 -1 0 2 -1 0000100000000000]" + "[5 4 1 1 -1 0 0 3 -1 00000100000000000000]"
            + "[1 16 1 0 1 4 -4 4 -1 0100000000000000]";
        Due.same("kind " + kind + ", symbols", d.symbols(), due);
    }

    private static void readGoesTheSameWay(int kind) {
        Due.sentence("Terms", "READING goes the same way");
        String[] noise = {"0100110101111000", "1101001011100010", "0011101000101101", "1000011110110100", "0111001001011010"};
        int[] ends = {-4, -1, 0, 2, 4};
        for (int dx : ends) {
            for (int dy : ends) {
                BitRow bits = new BitRow().numbers(2, 4).symbol(kind, 16, noise).refined(kind, 0, 0, dx, dy, noise);
                bits.bit(0).number(2);
                Alike d = new Alike(() -> {
                    Counted made = new Counted(kind);
                    read(made, kind, bits);
                    return made;
                });
                Due.same("the base", d.samples(0), String.join("", noise));
                Due.same("shift " + dx + " " + dy, d.samples(1), overBase(noise, dx, dy));
            }
        }
    }

    /** The samples of a symbol whose plane and base are the same rows. */
    private static String overBase(String[] rows, int dx, int dy) {
        StringBuilder samples = new StringBuilder();
        for (int y = 0; y < rows.length; y++) {
            for (int x = 0; x < 16; x++) {
                int baseX = x - dx;
                int baseY = y - dy;
                boolean outside = baseX < 0 || baseX > 15 || baseY < 0 || baseY >= rows.length;
                char base = outside ? '0' : rows[baseY].charAt(baseX);
                samples.append(rows[y].charAt(x) == base ? '0' : '1');
            }
        }
        return samples.toString();
    }

    private static void readGoes(int kind) {
        Due.sentence("Promise 12", "and goes: how many symbols");
        Counted d = new Counted(kind);
        Due.is("40, the most", 40, () -> read(d, kind, small(kind, 40).number(40)));
        Due.is("it went", 0, () -> d.count(2));
        Due.is("so many symbols", 40, () -> d.count(0));
        Due.is("one", 1, () -> read(d, kind, small(kind, 1).number(1)));
        Due.is("none", 0, () -> read(d, kind, new BitRow().number(0)));
        Due.is("refused", -1, () -> read(d, kind, new BitRow().number(41)));
        Due.is("it went, though it was refused", 0, () -> d.count(2));
        Due.is("one behind it", 1, () -> read(d, kind, small(kind, 1).number(1)));
        Due.is("nothing is written by it", 0, () -> d.count(1));
    }

    private static void readTheLargest(int kind) {
        Due.sentence("Promise 12", "What is to be read makes the dictionary");
        Alike d = new Alike(() -> {
            Counted made = new Counted(kind);
            for (int i = 0; i < 40; i++) {
                made.symbol(16, 16);
            }
            made.row(0, 15, -1);
            made.row(39, 0, 1);
            made.row(39, 15, 0x8000);
            made.refined(39, 0, 4, -4);
            made.export(39, true);
            made.write();
            made.pass();
            Due.is("40 symbols, each 16 by 16", 40, made::read);
            return made;
        });
        Due.same("the first", d.samples(0), "0".repeat(240) + "1".repeat(16));
        Due.same("the one before the last", d.samples(38), "0".repeat(256));
        Due.same("the last", d.samples(39), "1" + "0".repeat(254) + "1");
        Due.is("the last is exported", 1, () -> d.one().told(39, 3));
        Due.is("the first is not", 0, () -> d.one().told(0, 3));
    }

    private static BitRow[] refusals(int kind) {
        return new BitRow[] {
            new BitRow().number(41),
            new BitRow().numbers(1, 16),
            new BitRow().numbers(1, 0).bit(1).number(17),
            oneOf(kind, 2).bit(1).number(0).bit(1).number(1),
            oneOf(kind, 2).bit(1).number(0).bit(1).number(0).fourBits(9).fourBits(0),
            new BitRow().numbers(1, 0).bit(1).number(1).bit(0).number(2),
            small(kind, 1).number(2),
            small(kind, 1).text(NINE),
        };
    }

    private static void refusedByEach(int kind) {
        Due.sentence("Promise 12", "if it is refused, -1 less why");
        BitRow[] refusals = refusals(kind);
        for (int why = 0; why < refusals.length; why++) {
            if (why != 5 || kind == 1) {
                refused("refusal " + why, kind, why, refusals[why]);
            }
        }
    }

    private static void dictionaryStays(int kind) {
        Due.sentence("Promise 12", "the dictionary stays then");
        BitRow[] refusals = refusals(kind);
        for (int why = 0; why < refusals.length; why++) {
            int due = -1 - why;
            BitRow bits = refusals[why];
            if (why != 5 || kind == 1) {
                dueToStay("behind refusal " + why, kind, due, bits, () -> some(kind));
                dueToStay("read before, behind refusal " + why, kind, due, bits, () -> readBefore(kind));
                Counted next = some(kind);
                read(next, kind, bits);
                Due.is("the next symbol", 3, () -> next.symbol(1, 1));
                Due.is("it is white", 0, () -> next.told(3, 2));
            }
        }
    }

    private static void dueToStay(String what, int kind, int due, BitRow bits, Supplier<Counted> state) {
        Alike behind = new Alike(() -> {
            Counted made = state.get();
            Due.is("refusal", due, () -> read(made, kind, bits));
            return made;
        });
        Due.same(what, behind.all(), new Alike(state).all());
    }

    /** A dictionary that was read itself. */
    private static Counted readBefore(int kind) {
        Counted d = some(kind);
        d.pass();
        d.read();
        d.classes(0);
        return d;
    }

    private static Counted some(int kind) {
        Counted d = new Counted(kind);
        d.symbol(3, 2);
        d.symbol(2, 2);
        d.symbol(1, 1);
        d.row(0, 1, 0b101);
        d.row(2, 0, 1);
        d.export(0, true);
        d.refined(0, 1, -1, 2);
        d.classes(1);
        d.write();
        return d;
    }

    /** What one reading leaves behind must not show in the next one. */
    private static void nothingIsLeftBehind(int kind) {
        Due.sentence("Promise 12", "What is to be read makes the dictionary");
        BitRow black = new BitRow().numbers(2, 1).symbol(kind, 2, "11", "11");
        black.refined(kind, 0, 0, -4, 4, "11", "11").bit(0).numbers(0, 2);
        BitRow white = new BitRow().numbers(2, 1).symbol(kind, 2, "00", "00").symbol(kind, 0, "00", "00").bit(0).number(2);
        for (int times = 1; times <= 3; times++) {
            int howOften = times;
            Alike d = new Alike(() -> {
                Counted made = new Counted(kind);
                for (int i = 0; i < howOften; i++) {
                    Due.is("black", 2, () -> read(made, kind, black));
                    made.classes(0);
                    Due.is("white", 2, () -> read(made, kind, white));
                }
                return made;
            });
            Due.same("kind " + kind, d.symbols(), "[2 2 0 0 -1 0 0 0 -1 0000][2 2 0 0 -1 0 0 1 -1 0000]");
        }
    }

    private static void bitsThatLack() {
        Due.sentence("Terms", "bits (for kind 2: bytes) that lack count as 0");
        for (int kind = 0; kind <= 1; kind++) {
            due("nothing: a number of bits 0", kind, -8, new BitRow());
            // The last bits of the last number are 0, and alone in the last byte.
            int howMany = kind == 0 ? 15 : 31;
            int[] bytes = small(kind, howMany).number(howMany).bytes(kind);
            Due.is("the test's last byte", 0, () -> bytes[bytes.length - 1]);
            Counted whole = new Counted(kind);
            feed(whole, bytes);
            Due.is("all", howMany, whole::read);
            Counted lacking = new Counted(kind);
            feed(lacking, Arrays.copyOf(bytes, bytes.length - 1));
            Due.is("without the last byte", howMany, lacking::read);
            Due.is("the last one is told", 0, () -> lacking.told(howMany - 1, 3));
        }
        // Behind these all bits lack: a plane, the end of a height, and a number of the exports.
        due("the plane lacks", 0, -8, new BitRow().numbers(1, 3).bit(1).number(9).bit(0));
        due("a run lacks", 1, -8, new BitRow().numbers(1, 3).bit(1).number(9).bit(0));
        due("15 symbols, and the height lacks", 0, -8, new BitRow().text("00001000"));
        due("the bit of a symbol lacks: a class without symbols", 0, -2, new BitRow().text("010 00100"));
    }

    private static void bytesThatLack() {
        Due.sentence("Terms", "(for kind 2: bytes) that lack count as 0");
        Counted nothing = new Counted(2);
        Due.is("nothing at all is a bit 1: no symbols", 0, nothing::read);
        Counted cleared = Counted.cleared(2);
        Due.is("nothing at all, cleared before", 0, cleared::read);
        Counted one = new Counted(2);
        one.feed(0);
        Due.is("a byte lacks", 0, one::read);
        int found = 0;
        for (int bits = 0; bits < 1024 && found < 3; bits++) {
            String row = Integer.toBinaryString(1024 | bits).substring(1);
            int[] bytes = new BitRow().numbers(1, 0).symbol(2, 10, row).bit(0).number(1).bytes(2);
            if (bytes[bytes.length - 1] == 0) {
                found++;
                Alike d = new Alike(() -> {
                    Counted made = new Counted(2);
                    feed(made, Arrays.copyOf(bytes, bytes.length - 1));
                    Due.is("the last byte lacks", 1, made::read);
                    return made;
                });
                Due.same("the last byte lacks", d.samples(0), row);
            }
        }
        int met = found;
        Due.is("the test has bytes 0 at an end", 3, () -> met);
    }

    private static void whatIsTooMuch(int kind) {
        Due.sentence("Terms", "what is too much is passed over");
        int[][] behind = {{0}, {255}, {128, 0, 255, 7}};
        for (int[] more : behind) {
            Counted empty = new Counted(kind);
            feed(empty, new BitRow().number(0).bytes(kind));
            feed(empty, more);
            Due.is("behind no symbols", 0, empty::read);
            Due.is("it is gone", 0, () -> empty.count(2));
            Counted d = new Counted(kind);
            feed(d, small(kind, 2).numbers(1, 1).bytes(kind));
            feed(d, more);
            Due.is("behind two symbols", 2, d::read);
            Due.is("the first is not exported", 0, () -> d.told(0, 3));
            Due.is("the second is", 1, () -> d.told(1, 3));
            Due.is("it is gone", 0, () -> d.count(2));
            Due.is("the next reading begins anew", 1, () -> read(d, kind, small(kind, 1).number(1)));
        }
        if (kind < 2) {
            due("bits behind the end, in the last byte", kind, 0, new BitRow().number(0).text("1111111"));
            due("bits behind the end, in the last byte", kind, 1, small(kind, 1).number(1).text("1"));
        }
    }

    private static void refusedAtOnce(int kind) {
        Due.sentence("Terms", "It is REFUSED, at once, for");
        refused("41 symbols, then a number too long", kind, 0, new BitRow().number(41).text(NINE));
        refused("17 high, then no symbols", kind, 1, new BitRow().numbers(1, 16).bit(0));
        refused("17 high, then 17 wide", kind, 1, new BitRow().numbers(1, 16).bit(1).number(17));
        refused("no symbols, then a number too long", kind, 1, new BitRow().numbers(1, 0).bit(0).text(NINE));
        refused("17 wide, then a base before the first", kind, 2, new BitRow().numbers(1, 0).bit(1).number(17).bit(1).number(0));
        refused("0 wide, then a number too long", kind, 2, new BitRow().numbers(1, 0).bit(1).number(0).bit(1).text(NINE));
        BitRow base = oneOf(kind, 2).bit(1).number(0).bit(1).number(1).fourBits(15).fourBits(15);
        refused("a base before the first, then DX above 4", kind, 3, base);
        BitRow shift = oneOf(kind, 2).bit(1).number(0).bit(1).number(0).fourBits(9).fourBits(4).text(NINE);
        refused("DX above 4, then what is no plane of kind 1", kind, 4, shift);
        refused("more than told, then 17 wide", kind, 0, oneOf(kind, 1).bit(1).number(16));
        refused("more than told, then a number too long", kind, 0, oneOf(kind, 1).bit(1).text(NINE));
        refused("2 of 1 not exported, then a number too long", kind, 6, small(kind, 1).number(2).text(NINE));
        refused("a number too long, then a height of 17", kind, 7, new BitRow().text(NINE).number(16));
        if (kind == 1) {
            refused("a run too long, then more than told", 1, 5, new BitRow().numbers(1, 0).bit(1).number(1).bit(0).number(2).bit(1));
        }
    }

    private static void tooManySymbols(int kind) {
        Due.sentence("Terms", "0 more than 40 symbols");
        due("40", kind, 40, small(kind, 40).number(40));
        int[] wrong = {41, 42, 63, 255, 510};
        for (int howMany : wrong) {
            refused("" + howMany, kind, 0, new BitRow().number(howMany));
        }
    }

    private static void moreThanTold(int kind) {
        Due.sentence("Terms", "or more in the classes than told");
        due("one told, one there", kind, 1, oneOf(kind, 1).bit(0).number(1));
        refused("one told, two there", kind, 0, oneOf(kind, 1).symbol(kind, 0, "0").bit(0).number(2));
        refused("two told, three there", kind, 0, oneOf(kind, 2).symbol(kind, 0, "0").symbol(kind, 3, "000").bit(0).number(3));
        BitRow second = oneOf(kind, 2).bit(0).number(0).symbol(kind, 1, "0", "0").symbol(kind, 0, "0", "0").bit(0).number(3);
        refused("two told, one and two there", kind, 0, second);
        BitRow forty = oneOf(kind, 40);
        for (int i = 1; i < 40; i++) {
            forty.symbol(kind, 0, "0");
        }
        refused("40 told, 41 there", kind, 0, forty.symbol(kind, 0, "0").bit(0).number(41));
    }

    private static void tooHigh(int kind) {
        Due.sentence("Terms", "1 a height above 16");
        due("16", kind, 1, new BitRow().numbers(1, 15).symbol(kind, 1, lines("0", 16)).bit(0).number(1));
        refused("17", kind, 1, new BitRow().numbers(1, 16).symbol(kind, 1, lines("0", 17)).bit(0).number(1));
        refused("511", kind, 1, new BitRow().numbers(1, 510).bit(1).number(1));
        due("1 and 15 more", kind, 2, oneOf(kind, 2).bit(0).number(14).symbol(kind, 1, lines("0", 16)).bit(0).number(2));
        refused("1 and 16 more", kind, 1, oneOf(kind, 2).bit(0).number(15).bit(1).number(1));
        BitRow all = new BitRow().number(17);
        for (int height = 1; height <= 16; height++) {
            all.number(0).symbol(kind, 1, lines("0", height)).bit(0);
        }
        refused("a class behind that of 16", kind, 1, all.number(0).bit(1).number(1));
    }

    private static void classWithoutSymbols(int kind) {
        Due.sentence("Terms", "or a class without symbols");
        refused("the first", kind, 1, new BitRow().numbers(1, 0).bit(0).number(0).symbol(kind, 1, "0", "0").bit(0).number(1));
        refused("the second", kind, 1, oneOf(kind, 2).bit(0).number(0).bit(0).number(0).bit(1));
        refused("that of 16", kind, 1, new BitRow().numbers(1, 15).bit(0));
        due("one symbol is enough", kind, 2, oneOf(kind, 2).bit(0).number(0).symbol(kind, 1, "0", "0").bit(0).number(2));
    }

    private static void tooWide(int kind) {
        Due.sentence("Terms", "2 a width above 16, or 0");
        due("16", kind, 1, new BitRow().numbers(1, 0).symbol(kind, 16, "0".repeat(16)).bit(0).number(1));
        refused("17", kind, 2, new BitRow().numbers(1, 0).symbol(kind, 17, "0".repeat(17)).bit(0).number(1));
        refused("510", kind, 2, new BitRow().numbers(1, 0).bit(1).number(510));
        due("1 and 15 more", kind, 2, oneOf(kind, 2).symbol(kind, 15, "0".repeat(16)).bit(0).number(2));
        refused("1 and 16 more", kind, 2, oneOf(kind, 2).symbol(kind, 16, "0".repeat(17)).bit(0).number(2));
        refused("1 and 510 more", kind, 2, oneOf(kind, 2).bit(1).number(510));
        refused("0", kind, 2, new BitRow().numbers(1, 0).bit(1).number(0).bit(0));
        refused("0 in the second class", kind, 2, oneOf(kind, 2).bit(0).number(0).bit(1).number(0).bit(0));
        due("0 more than before", kind, 2, oneOf(kind, 2).symbol(kind, 0, "0").bit(0).number(2));
        BitRow anew = new BitRow().numbers(2, 0).symbol(kind, 16, "0".repeat(16)).bit(0);
        due("16, and 16 in the next class", kind, 2, anew.number(0).symbol(kind, 16, lines("0".repeat(16), 2)).bit(0).number(2));
    }

    private static void baseBeforeTheFirst(int kind) {
        Due.sentence("Terms", "3 a base before the first symbol");
        refused("of the first", kind, 3, new BitRow().numbers(1, 0).bit(1).number(1).bit(1).number(0).fourBits(4));
        due("the first", kind, 2, oneOf(kind, 2).refined(kind, 0, 0, 0, 0, "0").bit(0).number(2));
        refused("one before the first", kind, 3, oneOf(kind, 2).bit(1).number(0).bit(1).number(1).fourBits(4).fourBits(4));
        refused("far before the first", kind, 3, oneOf(kind, 2).bit(1).number(0).bit(1).number(510));
        int[] between = {38, 39};
        for (int b : between) {
            BitRow bits = oneOf(kind, 40);
            for (int i = 1; i < 39; i++) {
                bits.symbol(kind, 0, "0");
            }
            bits.refined(kind, 0, b, 0, 0, "0").bit(0).number(40);
            due("of the 40th, with " + b + " between", kind, b == 38 ? 40 : -4, bits);
        }
        BitRow otherHeight = oneOf(kind, 2).bit(0).number(0).refined(kind, 1, 0, 0, 0, "0", "0").bit(0).number(2);
        due("of another height", kind, 2, otherHeight);
    }

    private static void shiftAboveFour(int kind) {
        Due.sentence("Terms", "4 DX or DY above 4");
        for (int bits = 0; bits < 16; bits++) {
            int shift = bits - 4;
            BitRow dx = oneOf(kind, 2).refined(kind, 0, 0, shift, -4, "1").bit(0).number(2);
            BitRow dy = oneOf(kind, 2).refined(kind, 0, 0, 4, shift, "1").bit(0).number(2);
            due("DX " + shift, kind, shift > 4 ? -5 : 2, dx);
            due("DY " + shift, kind, shift > 4 ? -5 : 2, dy);
        }
        refused("both", kind, 4, oneOf(kind, 2).refined(kind, 0, 0, 11, 11, "1").bit(0).number(2));
    }

    private static void aRunBeyondThePlane() {
        Due.sentence("Terms", "5 a run beyond the plane");
        int[][] fine = {{4}, {0, 4}, {3, 1}, {1, 1, 1, 1}, {0, 1, 3}};
        for (int[] runs : fine) {
            BitRow bits = new BitRow().numbers(1, 1).bit(1).number(2).bit(0).numbers(runs).bit(0).number(1);
            due("runs " + Arrays.toString(runs), 1, 1, bits);
        }
        int[][] wrong = {{5}, {0, 5}, {3, 2}, {1, 1, 1, 2}, {510}, {0, 510}, {1, 510}};
        for (int[] runs : wrong) {
            BitRow bits = new BitRow().numbers(1, 1).bit(1).number(2).bit(0).numbers(runs).bit(0).number(1);
            refused("runs " + Arrays.toString(runs), 1, 5, bits);
        }
        due("256 of 256", 1, 1, new BitRow().numbers(1, 15).bit(1).number(16).bit(0).number(256).bit(0).number(1));
        refused("257 of 256", 1, 5, new BitRow().numbers(1, 15).bit(1).number(16).bit(0).number(257).bit(0).number(1));
        refused("0 and 257 of 256", 1, 5, new BitRow().numbers(1, 15).bit(1).number(16).bit(0).numbers(0, 257).bit(0).number(1));
    }

    /** Runs of 0 are none of the reasons to refuse; they end where no bits are left. */
    private static void runsOfNothing() {
        Due.sentence("Terms", "1: runs: how many 0 come, a number, then how many 1, and so on, till all is told");
        Alike d = new Alike(() -> {
            Counted made = new Counted(1);
            BitRow bits = new BitRow().numbers(1, 0).bit(1).number(4).bit(0).numbers(1, 0, 1, 0, 0, 2).bit(0).number(1);
            Due.is("runs 1 0 1 0 0 2", 1, () -> read(made, 1, bits));
            return made;
        });
        Due.same("runs 1 0 1 0 0 2", d.samples(0), "0011");
        // As many as can be fed in 512 calls.
        BitRow endless = new BitRow().numbers(1, 0).bit(1).number(1).bit(0);
        for (int i = 0; i < 4000; i++) {
            endless.number(0);
        }
        Counted fed = new Counted(1);
        Due.is("4000 runs of 0, then none", -8, () -> read(fed, 1, endless));
    }

    private static void exportsAsTold(int kind) {
        Due.sentence("Terms", "how many come that are not exported, a number; how many come behind these that are exported");
        int[][] numbers = {{3}, {0, 3}, {1, 2}, {2, 1}, {1, 1, 1}, {0, 1, 2}, {0, 2, 1}, {0, 1, 1, 1}};
        String[] exported = {"000", "111", "011", "001", "010", "100", "110", "101"};
        for (int i = 0; i < numbers.length; i++) {
            Counted d = new Counted(kind);
            BitRow bits = small(kind, 3).numbers(numbers[i]);
            String due = exported[i];
            Due.is("exported " + due, 3, () -> read(d, kind, bits));
            for (int symbol = 0; symbol < 3; symbol++) {
                int s = symbol;
                Due.is("exported " + due + ": " + s, due.charAt(s) - '0', () -> d.told(s, 3));
            }
        }
    }

    private static void moreExportedThanLeft(int kind) {
        Due.sentence("Terms", "6 more exported, or not, than are left");
        int[][] wrong = {{4}, {510}, {0, 4}, {0, 510}, {1, 3}, {2, 2}, {1, 1, 2}, {0, 1, 3}, {0, 1, 1, 2}};
        for (int[] numbers : wrong) {
            refused("exports " + Arrays.toString(numbers), kind, 6, small(kind, 3).numbers(numbers));
        }
        due("all of 40", kind, 40, small(kind, 40).number(40));
        refused("41 of 40", kind, 6, small(kind, 40).number(41));
        due("0 and all of 40", kind, 40, small(kind, 40).numbers(0, 40));
        refused("0 and 41 of 40", kind, 6, small(kind, 40).numbers(0, 41));
    }

    private static void noneExportedButAtFirst(int kind) {
        Due.sentence("Terms", "or none of these (but at first)");
        int[][] wrong = {{0, 0, 3}, {1, 0, 2}, {2, 0, 1}, {1, 1, 0, 1}, {0, 1, 0, 2}, {0, 2, 0, 1}, {0, 1, 1, 0, 1}};
        for (int[] numbers : wrong) {
            refused("exports " + Arrays.toString(numbers), kind, 6, small(kind, 3).numbers(numbers));
        }
        due("at first", kind, 3, small(kind, 3).numbers(0, 3));
    }

    /** Eight bits 0 before the first 1 are fine, nine are not, in each place where a number is due. */
    private static void numberTooLong(int kind) {
        Due.sentence("Terms", "7 a number with k above 8");
        String eight = "00000000 1 00000000";
        BitRow[] fronts = {new BitRow(), new BitRow().number(1), new BitRow().numbers(1, 0).bit(1), oneOf(kind, 2).bit(1),
            oneOf(kind, 2).bit(1).number(0).bit(1), small(kind, 2), small(kind, 2).number(1)};
        BitRow[] same = {new BitRow(), new BitRow().number(1), new BitRow().numbers(1, 0).bit(1), oneOf(kind, 2).bit(1),
            oneOf(kind, 2).bit(1).number(0).bit(1), small(kind, 2), small(kind, 2).number(1)};
        int[] whyEight = {0, 1, 2, 2, 3, 6, 6};
        for (int i = 0; i < fronts.length; i++) {
            refused("nine, place " + i, kind, 7, fronts[i].text(NINE));
            refused("eight, place " + i, kind, whyEight[i], same[i].text(eight));
        }
        refused("no 1 at all", kind, 7, new BitRow().text("0".repeat(40)));
        if (kind == 1) {
            refused("nine, a run", 1, 7, new BitRow().numbers(1, 0).bit(1).number(1).bit(0).text(NINE));
            refused("nine, a second run", 1, 7, new BitRow().numbers(1, 0).bit(1).number(1).bit(0).number(0).text(NINE));
            BitRow fine = new BitRow().numbers(1, 15).bit(1).number(16).bit(0).text(eight).number(1).bit(0).number(1);
            due("eight, a run of 255", 1, 1, fine);
        }
    }
}
