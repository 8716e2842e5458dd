/** Promises 1 to 7, 13, 17 and 18, and what the terms say of symbols: sentence by sentence. */
public final class SymbolsTest {
    private static final int NONE = SymbolDictionaries.NONE;
    private static final int LOWEST = Integer.MIN_VALUE;
    private static final int HIGHEST = Integer.MAX_VALUE;
    private static final int[][] KINDS = {{LOWEST, 0}, {-1, 0}, {0, 0}, {1, 1}, {2, 2}, {3, 2}, {HIGHEST, 2}};
    private static final int[] ENDS = {1, 16};

    public static void main(String[] args) {
        kindByCount();
        kindByWhatIsWritten();
        nothingAtFirst();
        numbersRise();
        fortyAtMost();
        fortyAtMostBehindReading();
        wrongSides();
        sidesAtTheirEnds();
        whiteAtFirst();
        notExportedAtFirst();
        noBaseAtFirst();
        anotherSymbolAsBase();
        shiftsAtTheirEnds();
        orderByHeightWidthNumber();
        baseComesBefore();
        putToAndFro();
        putTouchesOneSample();
        rowLowestFirst();
        rowBitsBeyond();
        rowTouchesOneRow();
        atEveryCorner();
        refinedAnswersTheBaseBefore();
        refinedLeavesSamples();
        refinedToNone();
        refinedNoSuchBase();
        refinedWrongShift();
        refinedNotBefore();
        refinedNotBeforeAtAll();
        exportToAndFro();
        toldAtItsEnds();
        toldOfNothingElse();
        countOfEach();
        countOfAnother();
        clearAll();
        clearNothing();
        clearedIsAsNew();
        clearFull();
        Due.end();
    }

    private static void kindByCount() {
        Due.sentence("Promise 1", "It is of this KIND, 0 .. 2 (another number counts as the nearest of these)");
        for (int[] kind : KINDS) {
            Counted d = new Counted(kind[0]);
            Due.is("kind of " + kind[0], kind[1], () -> d.count(3));
        }
    }

    private static void kindByWhatIsWritten() {
        Due.sentence("Terms", "It is made with a KIND, 0 .. 2 (another number counts as the nearest of these).");
        for (int[] kind : KINDS) {
            Alike d = new Alike(() -> {
                Counted made = new Counted(kind[0]);
                made.row(made.symbol(4, 1), 0, 0b0110);
                made.write();
                return made;
            });
            BitRow due = new BitRow().numbers(1, 0).symbol(kind[1], 4, "0110").bit(0).number(1);
            Due.same("bytes by kind " + kind[0], text(d.bytes()), text(due.bytes(kind[1])));
        }
    }

    private static String text(int[] numbers) {
        return java.util.Arrays.toString(numbers);
    }

    private static void nothingAtFirst() {
        Due.sentence("Promise 1", "and has no symbols");
        for (int[] kind : KINDS) {
            Counted d = new Counted(kind[0]);
            Due.is("symbols", 0, () -> d.count(0));
            Due.index("symbol 0", () -> d.told(0, 0));
            Due.is("nothing was written", 0, () -> d.count(1));
            Due.is("nothing is to be read", 0, () -> d.count(2));
            Due.is("the first number", 0, () -> d.symbol(1, 1));
        }
    }

    private static void numbersRise() {
        Due.sentence("Promise 2", "A new symbol: its number.");
        Counted d = new Counted(0);
        for (int i = 0; i < 40; i++) {
            int side = i % 16 + 1;
            Due.is("symbol " + i, i, () -> d.symbol(side, 17 - side));
        }
        for (int i = 0; i < 40; i++) {
            int symbol = i;
            Due.is("width of " + i, i % 16 + 1, () -> d.told(symbol, 0));
            Due.is("height of " + i, 16 - i % 16, () -> d.told(symbol, 1));
        }
        Due.is("symbols", 40, () -> d.count(0));
    }

    private static Counted withForty(int kind) {
        Counted d = new Counted(kind);
        for (int i = 0; i < 40; i++) {
            d.symbol(1, 1);
        }
        return d;
    }

    private static void fortyAtMost() {
        Due.sentence("Terms", "SYMBOLS have numbers 0, 1, .., 40 at most");
        for (int kind = 0; kind <= 2; kind++) {
            Counted d = withForty(kind);
            Due.is("the last number is there", 1, () -> d.told(39, 0));
            Due.unsupported("one more", () -> d.symbol(1, 1));
            Due.unsupported("one more of another size", () -> d.symbol(16, 16));
            Due.is("symbols", 40, () -> d.count(0));
            Due.index("number 40", () -> d.told(40, 0));
        }
    }

    private static void fortyAtMostBehindReading() {
        Due.sentence("Terms", "SYMBOLS have numbers 0, 1, .., 40 at most");
        for (int kind = 0; kind <= 2; kind++) {
            Counted d = withForty(kind);
            d.write();
            d.pass();
            Due.is("40 are read", 40, d::read);
            Due.unsupported("one more than were read", () -> d.symbol(1, 1));
            d.clear();
            for (int i = 0; i < 39; i++) {
                d.symbol(1, 1);
            }
            d.write();
            d.pass();
            Due.is("39 are read", 39, d::read);
            Due.is("the 40th", 39, () -> d.symbol(1, 1));
            Due.unsupported("the 41st", () -> d.symbol(1, 1));
        }
    }

    private static void wrongSides() {
        Due.sentence("Promise 2", "IllegalArgument: its width or height.");
        Counted d = new Counted(0);
        int[] wrong = {LOWEST, -16, -1, 0, 17, 32, HIGHEST};
        for (int side : wrong) {
            Due.argument("width " + side, () -> d.symbol(side, 1));
            Due.argument("height " + side, () -> d.symbol(1, side));
            Due.argument("width, at a height of 16: " + side, () -> d.symbol(side, 16));
            Due.argument("height, at a width of 16: " + side, () -> d.symbol(16, side));
            Due.argument("both " + side, () -> d.symbol(side, side));
        }
        Due.is("no symbol was made", 0, () -> d.count(0));
        Due.is("the number that comes", 0, () -> d.symbol(1, 1));
    }

    private static void sidesAtTheirEnds() {
        Due.sentence("Terms", "a WIDTH and a HEIGHT, each 1 .. 16");
        for (int width : ENDS) {
            for (int height : ENDS) {
                Counted d = new Counted(0);
                Due.is(width + " by " + height, 0, () -> d.symbol(width, height));
                Due.is("width", width, () -> d.told(0, 0));
                Due.is("height", height, () -> d.told(0, 1));
                Due.is("the last sample is there", true, () -> d.put(0, width - 1, height - 1, true));
                Due.index("none to its right", () -> Due.of(d.at(0, width, height - 1)));
                Due.index("none below it", () -> Due.of(d.at(0, width - 1, height)));
            }
        }
    }

    private static void whiteAtFirst() {
        Due.sentence("Terms", "SAMPLES, black or white, at first white");
        for (int i = 0; i <= 1; i++) {
            boolean usedBefore = i == 1;
            Alike d = new Alike(() -> {
                Counted made = usedBefore ? Counted.cleared(0) : new Counted(0);
                made.symbol(16, 16);
                made.symbol(1, 1);
                return made;
            });
            Due.same("16 by 16", d.samples(0), "0".repeat(256));
            Due.same("1 by 1", d.samples(1), "0");
            Due.is("no black samples of the first", 0, () -> d.one().told(0, 2));
            Due.is("no black samples of the second", 0, () -> d.one().told(1, 2));
        }
    }

    private static void notExportedAtFirst() {
        Due.sentence("Terms", "each is EXPORTED or not (at first not)");
        Counted d = withForty(0);
        d.export(0, true);
        d.clear();
        d.symbol(1, 1);
        Due.is("told", 0, () -> d.told(0, 3));
        Due.is("it was not the other way", false, () -> d.export(0, false));
    }

    private static void noBaseAtFirst() {
        Due.sentence("Terms", "and has a BASE or none (at first)");
        Counted d = new Counted(0);
        d.symbol(1, 1);
        d.symbol(1, 1);
        int[] due = {NONE, 0, 0};
        for (int symbol = 0; symbol <= 1; symbol++) {
            for (int i = 0; i < due.length; i++) {
                int s = symbol;
                int what = 4 + i;
                Due.is("told " + what + " of " + s, due[i], () -> d.told(s, what));
            }
        }
    }

    private static void anotherSymbolAsBase() {
        Due.sentence("Terms", "another symbol, with a shift DX and DY");
        Counted d = new Counted(0);
        d.symbol(3, 3);
        d.symbol(3, 3);
        Due.state("itself is not another", () -> d.refined(1, 1, 0, 0));
        Due.state("itself, with a shift, neither", () -> d.refined(1, 1, 1, 1));
        Due.is("no base", NONE, () -> d.told(1, 4));
        Due.is("another", NONE, () -> d.refined(1, 0, 0, 0));
        Due.is("its base", 0, () -> d.told(1, 4));
    }

    private static void shiftsAtTheirEnds() {
        Due.sentence("Terms", "each -4 .. 4");
        Counted d = new Counted(0);
        d.symbol(1, 1);
        d.symbol(1, 1);
        int[][] ends = {{-4, -4}, {-4, 4}, {4, -4}, {4, 4}, {0, 0}};
        for (int[] end : ends) {
            d.refined(1, 0, end[0], end[1]);
            Due.is("DX", end[0], () -> d.told(1, 5));
            Due.is("DY", end[1], () -> d.told(1, 6));
        }
    }

    private static void orderByHeightWidthNumber() {
        Due.sentence("Terms", "THE ORDER of symbols is by height, then width, then number, each rising.");
        Counted d = new Counted(0);
        int[][] sizes = {{9, 2}, {1, 3}, {2, 2}, {16, 1}, {2, 2}, {1, 16}, {9, 2}};
        int[] places = {3, 5, 1, 0, 2, 6, 4};
        for (int[] size : sizes) {
            d.symbol(size[0], size[1]);
        }
        for (int i = 0; i < places.length; i++) {
            int symbol = i;
            Due.is("place of " + i, places[i], () -> d.told(symbol, 7));
        }
    }

    private static void baseComesBefore() {
        Due.sentence("Terms", "A base comes before its symbol in it.");
        int[][] sizesOfBaseAndSymbol = {{16, 1, 1, 2}, {1, 2, 2, 2}, {2, 2, 2, 2}};
        for (int[] s : sizesOfBaseAndSymbol) {
            Counted d = new Counted(0);
            d.symbol(s[0], s[1]);
            d.symbol(s[2], s[3]);
            Due.is("before", NONE, () -> d.refined(1, 0, 0, 0));
            Due.state("behind", () -> d.refined(0, 1, 0, 0));
            d.symbol(1, 1);
            int between = d.symbol(s[2], s[3]);
            Due.is("still before, with others about", 0, () -> d.refined(1, 0, 0, 0));
            Due.state("a later one of the same size is behind", () -> d.refined(1, between, 0, 0));
        }
    }

    private static void putToAndFro() {
        Due.sentence("Promise 3", "A sample of a symbol is black or white: whether it was the other way.");
        Counted d = new Counted(0);
        d.symbol(16, 16);
        int[][] corners = {{0, 0}, {15, 0}, {0, 15}, {15, 15}};
        for (int[] c : corners) {
            Due.is("white is white", false, () -> d.put(0, c[0], c[1], false));
            Due.is("to black", true, () -> d.put(0, c[0], c[1], true));
            Due.is("it is black", true, () -> d.at(0, c[0], c[1]));
            Due.is("black is black", false, () -> d.put(0, c[0], c[1], true));
            Due.is("it is black still", true, () -> d.at(0, c[0], c[1]));
            Due.is("back to white", true, () -> d.put(0, c[0], c[1], false));
            Due.is("it is white", false, () -> d.at(0, c[0], c[1]));
        }
    }

    private static void putTouchesOneSample() {
        Due.sentence("Promise 3", "A sample of a symbol is black or white");
        Alike d = new Alike(() -> {
            Counted made = new Counted(0);
            made.symbol(3, 2);
            made.symbol(3, 2);
            made.put(0, 2, 1, true);
            made.put(1, 0, 0, true);
            return made;
        });
        Due.same("the first", d.samples(0), "000001");
        Due.same("the second", d.samples(1), "100000");
    }

    private static void rowLowestFirst() {
        Due.sentence("Promise 4", "A row of a symbol: samples by bits, the lowest first");
        Counted d = new Counted(0);
        d.symbol(16, 1);
        for (int x = 0; x < 16; x++) {
            int place = x;
            Due.is("bit " + x, 1, () -> d.row(0, 0, 1 << place));
            Due.is("it is black there", true, () -> d.at(0, place, 0));
            Due.is("what was there before goes", 1, () -> d.told(0, 2));
        }
    }

    private static void rowBitsBeyond() {
        Due.sentence("Promise 4", "bits beyond are passed over: how many are black");
        for (int width = 1; width <= 16; width++) {
            Counted d = new Counted(0);
            d.symbol(width, 1);
            int w = width;
            Due.is(w + " wide: all bits", w, () -> d.row(0, 0, -1));
            Due.is(w + " wide: all are black", w, () -> d.told(0, 2));
            Due.is(w + " wide: no bits", 0, () -> d.row(0, 0, 0));
            Due.is(w + " wide: the first bit beyond", 0, () -> d.row(0, 0, 1 << w));
            Due.is(w + " wide: the highest bit", 0, () -> d.row(0, 0, LOWEST));
            Due.is(w + " wide: all but the highest", w, () -> d.row(0, 0, HIGHEST));
            Due.is(w + " wide: the last and the first beyond", 1, () -> d.row(0, 0, 3 << (w - 1)));
            Due.is(w + " wide: one is black", 1, () -> d.told(0, 2));
            Due.is(w + " wide: the last is black", true, () -> d.at(0, w - 1, 0));
        }
    }

    private static void rowTouchesOneRow() {
        Due.sentence("Promise 4", "A row of a symbol");
        Alike d = new Alike(() -> {
            Counted made = new Counted(0);
            made.symbol(3, 3);
            made.symbol(3, 3);
            made.row(0, 0, -1);
            made.row(0, 2, -1);
            made.row(0, 0, 0b010);
            return made;
        });
        Due.same("this symbol", d.samples(0), "010" + "000" + "111");
        Due.same("the other", d.samples(1), "000000000");
        Counted rows = new Counted(0);
        rows.symbol(3, 2);
        rows.row(0, 0, -1);
        Due.is("black in this row alone", 2, () -> rows.row(0, 1, 0b101));
    }

    private static void atEveryCorner() {
        Due.sentence("Promise 5", "Whether a sample is black.");
        Counted d = new Counted(0);
        d.symbol(16, 16);
        int[][] corners = {{0, 0}, {15, 0}, {0, 15}, {15, 15}};
        for (int[] black : corners) {
            d.put(0, black[0], black[1], true);
            for (int[] c : corners) {
                Due.is("at " + c[0] + " " + c[1], c == black, () -> d.at(0, c[0], c[1]));
            }
            d.put(0, black[0], black[1], false);
        }
    }

    private static void refinedAnswersTheBaseBefore() {
        Due.sentence("Promise 6", "A symbol has a base, or none (NONE; the shift counts as 0 then): the one that it had.");
        Counted d = new Counted(0);
        d.symbol(2, 2);
        d.symbol(2, 2);
        d.symbol(2, 2);
        Due.is("none before", NONE, () -> d.refined(2, 0, 1, -1));
        Due.is("symbol 0 before", 0, () -> d.refined(2, 1, 2, -2));
        Due.is("symbol 1 before", 1, () -> d.refined(2, 1, 3, -3));
        Due.is("the same base: DX is new", 3, () -> d.told(2, 5));
        Due.is("the same base: DY is new", -3, () -> d.told(2, 6));
        Due.is("symbol 1 before none", 1, () -> d.refined(2, NONE, 0, 0));
        Due.is("none before none", NONE, () -> d.refined(2, NONE, 0, 0));
        Due.is("others keep theirs", NONE, () -> d.told(1, 4));
    }

    private static void refinedLeavesSamples() {
        Due.sentence("Promise 6", "A symbol has a base, or none");
        Alike d = new Alike(() -> {
            Counted made = new Counted(0);
            made.symbol(2, 1);
            made.symbol(2, 1);
            made.row(0, 0, 0b11);
            made.row(1, 0, 0b10);
            made.refined(1, 0, 1, 0);
            made.put(0, 0, 0, false);
            return made;
        });
        Due.same("the symbol", d.samples(1), "01");
        Due.same("the base", d.samples(0), "01");
    }

    private static void refinedToNone() {
        Due.sentence("Promise 6", "or none (NONE; the shift counts as 0 then)");
        int[] shifts = {0, 4, -4, 5, -5, LOWEST, HIGHEST};
        for (int shift : shifts) {
            Counted d = new Counted(0);
            d.symbol(2, 2);
            d.symbol(2, 2);
            d.refined(1, 0, 3, -2);
            Due.is("with the shift " + shift, 0, () -> d.refined(1, NONE, shift, -shift));
            Due.is("base", NONE, () -> d.told(1, 4));
            Due.is("DX", 0, () -> d.told(1, 5));
            Due.is("DY", 0, () -> d.told(1, 6));
        }
    }

    private static void refinedNoSuchBase() {
        Due.sentence("Promise 6", "IndexOutOfBounds: also for the base.");
        Counted d = new Counted(0);
        d.symbol(2, 2);
        d.symbol(2, 2);
        int[] wrong = {-2, 2, 3, 39, 40, LOWEST, HIGHEST};
        for (int base : wrong) {
            Due.index("base " + base, () -> d.refined(1, base, 0, 0));
        }
        Due.is("no base", NONE, () -> d.told(1, 4));
    }

    private static void refinedWrongShift() {
        Due.sentence("Promise 6", "IllegalArgument: the shift.");
        Counted d = new Counted(0);
        d.symbol(2, 2);
        d.symbol(2, 2);
        int[] wrong = {-5, 5, LOWEST, HIGHEST};
        for (int shift : wrong) {
            Due.argument("DX " + shift, () -> d.refined(1, 0, shift, 4));
            Due.argument("DY " + shift, () -> d.refined(1, 0, -4, shift));
            Due.argument("both " + shift, () -> d.refined(1, 0, shift, shift));
        }
        Due.is("no base", NONE, () -> d.told(1, 4));
    }

    private static void refinedNotBefore() {
        Due.sentence("Promise 6", "IllegalState: the base does not come before it in the order.");
        Counted d = new Counted(0);
        d.symbol(2, 2);
        d.symbol(2, 2);
        d.symbol(3, 2);
        d.symbol(1, 3);
        Due.state("by its number", () -> d.refined(0, 1, 0, 0));
        Due.state("itself", () -> d.refined(0, 0, 0, 0));
        Due.state("by its width", () -> d.refined(1, 2, 0, 0));
        Due.state("by its height, though narrower", () -> d.refined(2, 3, 0, 0));
        Due.is("before by its number", NONE, () -> d.refined(1, 0, 0, 0));
        Due.is("before by its width", NONE, () -> d.refined(2, 1, 0, 0));
        Due.is("before by its height, though wider", NONE, () -> d.refined(3, 2, 0, 0));
    }

    private static void refinedNotBeforeAtAll() {
        Due.sentence("Terms", "IllegalState as told.");
        Counted d = new Counted(0);
        d.symbol(5, 5);
        d.symbol(4, 4);
        Due.state("a lower number, but higher", () -> d.refined(1, 0, 4, 4));
        Due.is("a higher number, but lower", NONE, () -> d.refined(0, 1, 4, 4));
    }

    private static void exportToAndFro() {
        Due.sentence("Promise 7", "A symbol is exported, or not: whether it was the other way.");
        Counted d = withForty(0);
        int[] ends = {0, 39};
        for (int symbol : ends) {
            Due.is("not, as before", false, () -> d.export(symbol, false));
            Due.is("on", true, () -> d.export(symbol, true));
            Due.is("told", 1, () -> d.told(symbol, 3));
            Due.is("on again", false, () -> d.export(symbol, true));
            Due.is("told", 1, () -> d.told(symbol, 3));
            Due.is("another is not", 0, () -> d.told(20, 3));
            Due.is("off", true, () -> d.export(symbol, false));
            Due.is("told", 0, () -> d.told(symbol, 3));
        }
    }

    private static void dueTold(Counted d, int symbol, int... due) {
        for (int what = 0; what < due.length; what++) {
            int w = what;
            Due.is("told " + what + " of " + symbol, due[what], () -> d.told(symbol, w));
        }
    }

    private static void toldAtItsEnds() {
        Due.sentence("Promise 13", "Of a symbol: width (what = 0), height (1), black samples (2), whether it is exported, "
            + "1 or 0 (3), its base (4; NONE), DX (5), DY (6), its place in the order (7).");
        Counted d = new Counted(0);
        d.symbol(16, 16);
        for (int i = 1; i < 40; i++) {
            d.symbol(1, 1);
        }
        d.row(1, 0, -1);
        dueTold(d, 0, 16, 16, 0, 0, NONE, 0, 0, 39);
        d.row(1, 0, 0);
        for (int y = 0; y < 16; y++) {
            d.row(0, y, -1);
        }
        d.export(0, true);
        d.refined(0, 39, 4, -4);
        dueTold(d, 0, 16, 16, 256, 1, 39, 4, -4, 39);
        dueTold(d, 1, 1, 1, 0, 0, NONE, 0, 0, 0);
        dueTold(d, 39, 1, 1, 0, 0, NONE, 0, 0, 38);
        d.refined(39, 1, -4, 4);
        dueTold(d, 39, 1, 1, 0, 0, 1, -4, 4, 38);
    }

    private static void toldOfNothingElse() {
        Due.sentence("Promise 13", "Of a symbol: width (what = 0)");
        Counted d = new Counted(0);
        d.symbol(3, 2);
        int[] wrong = {-1, 8, LOWEST, HIGHEST};
        for (int what : wrong) {
            Due.argument("what = " + what, () -> d.told(0, what));
        }
    }

    private static void countOfEach() {
        Due.sentence("Promise 17", "Symbols (what = 0), bytes written last (1), bytes to be read (2), kind (3)");
        for (int kind = 0; kind <= 2; kind++) {
            int k = kind;
            Counted d = new Counted(kind);
            dueCounts(d, 0, 0, 0, k);
            d.symbol(1, 1);
            d.symbol(1, 1);
            d.symbol(1, 1);
            dueCounts(d, 3, 0, 0, k);
            int bytes = d.write();
            dueCounts(d, 3, bytes, 0, k);
            d.pass();
            d.feed(0);
            dueCounts(d, 3, bytes, bytes + 1, k);
            d.symbol(9, 9);
            dueCounts(d, 4, bytes, bytes + 1, k);
            d.read();
            dueCounts(d, 3, bytes, 0, k);
        }
    }

    private static void dueCounts(Counted d, int... due) {
        for (int what = 0; what < due.length; what++) {
            int w = what;
            Due.is("count " + what, due[what], () -> d.count(w));
        }
    }

    private static void countOfAnother() {
        Due.sentence("Promise 17", "NONE for another what.");
        Counted d = new Counted(1);
        int[] others = {-1, 4, 5, LOWEST, HIGHEST};
        for (int what : others) {
            Due.is("count " + what, NONE, () -> d.count(what));
        }
    }

    private static void clearAll() {
        Due.sentence("Promise 18", "No symbols, nothing written, nothing to be read.");
        for (int kind = 0; kind <= 2; kind++) {
            Counted d = new Counted(kind);
            d.symbol(3, 1);
            d.symbol(2, 2);
            d.row(1, 1, 3);
            d.export(1, true);
            d.refined(1, 0, 1, 1);
            d.classes(0);
            d.write();
            d.pass();
            d.clear();
            dueCounts(d, 0, 0, 0, kind);
            Due.index("no symbol", () -> d.told(0, 0));
            Due.index("no byte", () -> d.byteAt(0));
            Due.is("nothing to pass", 0, d::pass);
            d.symbol(2, 2);
            d.symbol(2, 2);
            dueTold(d, 1, 2, 2, 0, 0, NONE, 0, 0, 1);
            Due.is("a new symbol is in no class", NONE, () -> d.cls(1));
        }
    }

    private static void clearNothing() {
        Due.sentence("Promise 18", "No symbols, nothing written, nothing to be read.");
        for (int kind = 0; kind <= 2; kind++) {
            Counted d = new Counted(kind);
            d.clear();
            dueCounts(d, 0, 0, 0, kind);
            d.clear();
            Due.is("the first number", 0, () -> d.symbol(1, 1));
        }
    }

    private static void clearedIsAsNew() {
        Due.sentence("Promise 18", "No symbols, nothing written, nothing to be read.");
        for (int kind = 0; kind <= 2; kind++) {
            int k = kind;
            String due = new Alike(() -> smallAndRefined(new Counted(k))).all();
            Due.same("kind " + kind, new Alike(() -> smallAndRefined(Counted.cleared(k))).all(), due);
        }
    }

    private static Counted smallAndRefined(Counted d) {
        d.symbol(3, 2);
        d.symbol(5, 5);
        d.symbol(16, 16);
        d.refined(1, 0, -1, -1);
        d.refined(2, 1, 2, -4);
        d.write();
        return d;
    }

    private static void clearFull() {
        Due.sentence("Promise 18", "No symbols");
        Counted d = withForty(0);
        d.clear();
        for (int i = 0; i < 40; i++) {
            int symbol = i;
            Due.is("symbol " + i + " again", symbol, () -> d.symbol(1, 1));
        }
        Due.unsupported("and no more", () -> d.symbol(1, 1));
    }
}
