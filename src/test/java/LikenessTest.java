/** Promises 14 to 16: likeness, and classes by it, sentence by sentence. */
public final class LikenessTest {
    private static final int NONE = SymbolDictionaries.NONE;
    private static final int LOWEST = Integer.MIN_VALUE;
    private static final int HIGHEST = Integer.MAX_VALUE;

    public static void main(String[] args) {
        differencesCounted();
        differenceAtItsEnds();
        otherSizes();
        atMostSoMany();
        firstClassThatFits();
        byItsFirstSymbol();
        sizesAlike();
        byTheirNumbers();
        howManyClasses();
        boundBelowZero();
        latestClasses();
        notThereOrBefore();
        behindReadingAndClearing();
        Due.end();
    }

    private static void differencesCounted() {
        Due.sentence("Promise 14", "In how many samples two symbols differ");
        Counted d = new Counted(0);
        d.symbol(3, 2);
        d.symbol(3, 2);
        d.row(0, 0, 0b011);
        d.row(1, 0, 0b110);
        d.row(1, 1, 0b100);
        Due.is("two and one", 3, () -> d.likeness(0, 1));
        Due.is("the other way round", 3, () -> d.likeness(1, 0));
        d.export(0, true);
        d.refined(1, 0, 2, 2);
        Due.is("only samples count", 3, () -> d.likeness(0, 1));
    }

    private static void differenceAtItsEnds() {
        Due.sentence("Promise 14", "In how many samples two symbols differ");
        Counted d = new Counted(0);
        d.symbol(16, 16);
        d.symbol(16, 16);
        Due.is("in none", 0, () -> d.likeness(0, 1));
        d.put(0, 15, 15, true);
        Due.is("in the last", 1, () -> d.likeness(0, 1));
        d.put(1, 0, 0, true);
        Due.is("in the first and the last", 2, () -> d.likeness(0, 1));
        Due.is("with itself", 0, () -> d.likeness(0, 0));
        d.row(1, 0, 0);
        for (int y = 0; y < 16; y++) {
            d.row(0, y, -1);
        }
        Due.is("in all", 256, () -> d.likeness(0, 1));
    }

    private static void otherSizes() {
        Due.sentence("Promise 14", "NONE if their sizes are others.");
        Counted d = new Counted(0);
        int[][] sizes = {{3, 2}, {2, 3}, {3, 3}, {4, 2}, {6, 1}};
        for (int[] size : sizes) {
            d.symbol(size[0], size[1]);
        }
        for (int a = 0; a < sizes.length; a++) {
            for (int b = 0; b < sizes.length; b++) {
                int first = a;
                int second = b;
                Due.is(a + " and " + b, a == b ? 0 : NONE, () -> d.likeness(first, second));
            }
        }
    }

    /** Symbols of one row, four wide. */
    private static Counted rows(int... rows) {
        Counted d = new Counted(0);
        for (int bits : rows) {
            d.row(d.symbol(4, 1), 0, bits);
        }
        return d;
    }

    private static void dueClasses(Counted d, int bound, int howMany, int... due) {
        Due.is("classes(" + bound + ")", howMany, () -> d.classes(bound));
        for (int i = 0; i < due.length; i++) {
            int symbol = i;
            Due.is("classes(" + bound + "), cls(" + i + ")", due[i], () -> d.cls(symbol));
        }
    }

    private static void atMostSoMany() {
        Due.sentence("Promise 15", "with whose first symbol it differs in at most so many samples");
        Counted d = rows(0b0000, 0b0001, 0b0011, 0b0111, 0b1111, 0b0000);
        dueClasses(d, 0, 5, 0, 1, 2, 3, 4, 0);
        dueClasses(d, 1, 3, 0, 0, 1, 1, 2, 0);
        dueClasses(d, 2, 2, 0, 0, 0, 1, 1, 0);
        dueClasses(d, 3, 2, 0, 0, 0, 0, 1, 0);
        dueClasses(d, 4, 1, 0, 0, 0, 0, 0, 0);
        dueClasses(d, 256, 1, 0, 0, 0, 0, 0, 0);
        dueClasses(d, HIGHEST, 1, 0, 0, 0, 0, 0, 0);
    }

    private static void firstClassThatFits() {
        Due.sentence("Promise 15", "each one into the first class");
        // The third differs from the first class by 2 and from the second, which is more like it, by 1.
        Counted d = rows(0b0000, 0b0111, 0b0011);
        dueClasses(d, 2, 2, 0, 1, 0);
        dueClasses(d, 1, 2, 0, 1, 1);
    }

    private static void byItsFirstSymbol() {
        Due.sentence("Promise 15", "with whose first symbol it differs");
        // The third is like the second, which is not the first of its class.
        Counted d = rows(0b0000, 0b0001, 0b0011);
        dueClasses(d, 1, 2, 0, 0, 1);
    }

    private static void sizesAlike() {
        Due.sentence("Promise 15", "(sizes alike), or else into a new one");
        Counted d = rows(0, 0);
        d.symbol(1, 4);
        d.symbol(2, 2);
        d.symbol(4, 2);
        d.symbol(4, 1);
        dueClasses(d, 0, 4, 0, 0, 1, 2, 3, 0);
        dueClasses(d, HIGHEST, 4, 0, 0, 1, 2, 3, 0);
    }

    private static void byTheirNumbers() {
        Due.sentence("Promise 15", "Symbols are put into classes, by their numbers");
        Counted d = new Counted(0);
        d.symbol(16, 16);
        d.symbol(1, 1);
        d.symbol(8, 8);
        dueClasses(d, 0, 3, 0, 1, 2);
    }

    private static void howManyClasses() {
        Due.sentence("Promise 15", "how many classes");
        Counted d = new Counted(2);
        Due.is("of no symbols", 0, () -> d.classes(0));
        Due.is("of no symbols, by the highest bound", 0, () -> d.classes(HIGHEST));
        for (int i = 0; i < 40; i++) {
            d.symbol(i % 16 + 1, i / 16 + 1);
        }
        Due.is("each of its own size", 40, () -> d.classes(HIGHEST));
        for (int i = 0; i < 40; i++) {
            int symbol = i;
            Due.is("class of " + i, i, () -> d.cls(symbol));
        }
        d.clear();
        for (int i = 0; i < 40; i++) {
            d.symbol(16, 16);
        }
        Due.is("all alike", 1, () -> d.classes(0));
        Due.is("the last one", 0, () -> d.cls(39));
    }

    private static void boundBelowZero() {
        Due.sentence("Promise 15", "IllegalArgument: the bound is below 0.");
        Counted d = rows(1, 2);
        int[] wrong = {-1, -2, LOWEST};
        for (int bound : wrong) {
            Due.argument("bound " + bound, () -> d.classes(bound));
        }
        Due.is("there are no classes yet", NONE, () -> d.cls(0));
        Due.is("bound 0", 2, () -> d.classes(0));
        for (int bound : wrong) {
            Due.argument("bound " + bound, () -> d.classes(bound));
        }
        Due.is("the latest classes stay", 1, () -> d.cls(1));
        Counted empty = new Counted(0);
        Due.argument("of no symbols", () -> empty.classes(-1));
    }

    private static void latestClasses() {
        Due.sentence("Promise 16", "The class of a symbol by the latest classes()");
        Counted d = rows(1, 2);
        d.classes(0);
        d.row(1, 0, 1);
        Due.is("a later change does not count", 1, () -> d.cls(1));
        d.classes(0);
        Due.is("till the next", 0, () -> d.cls(1));
        d.row(1, 0, 2);
        d.classes(0);
        Due.is("and the one behind it", 1, () -> d.cls(1));
        d.classes(4);
        Due.is("by another bound", 0, () -> d.cls(1));
    }

    private static void notThereOrBefore() {
        Due.sentence("Promise 16", "NONE, if it was not there, or before.");
        Counted d = rows(1, 2);
        Due.is("before", NONE, () -> d.cls(0));
        Due.is("before", NONE, () -> d.cls(1));
        d.classes(0);
        d.symbol(4, 1);
        Due.is("it was there", 1, () -> d.cls(1));
        Due.is("it was not there", NONE, () -> d.cls(2));
        d.classes(0);
        Due.is("it was there the next time", 2, () -> d.cls(2));
        Counted none = new Counted(0);
        none.classes(0);
        none.symbol(4, 1);
        Due.is("none was there", NONE, () -> none.cls(0));
    }

    private static void behindReadingAndClearing() {
        Due.sentence("Promise 16", "NONE, if it was not there");
        Counted d = rows(1, 2);
        d.classes(0);
        d.feed(0);
        Due.is("refused", -8, d::read);
        Due.is("the dictionary stays, with its classes", 1, () -> d.cls(1));
        d.write();
        d.pass();
        Due.is("read", 2, d::read);
        Due.is("those read were not there", NONE, () -> d.cls(0));
        Due.is("those read were not there", NONE, () -> d.cls(1));
        d.classes(0);
        d.clear();
        d.symbol(4, 1);
        Due.is("one behind clear() was not there", NONE, () -> d.cls(0));
    }
}
