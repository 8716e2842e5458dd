/** Promises 14 to 16: likeness, and classes by it. */
public final class LikenessTest {
    private static final int LOWEST = Integer.MIN_VALUE;
    private static final int HIGHEST = Integer.MAX_VALUE;

    public static void main(String[] args) {
        likeness();
        classesByTheirFirst();
        firstClassThatFits();
        bounds();
        clsBeforeAndLater();
        clsBehindReading();
        Due.end();
    }

    private static void likeness() {
        SymbolDictionaries d = new SymbolDictionaries(0);
        d.symbol(3, 2);
        d.symbol(3, 2);
        d.symbol(2, 3);
        d.symbol(3, 3);
        d.symbol(16, 16);
        d.symbol(16, 16);
        d.row(0, 0, 0b011);
        d.row(1, 0, 0b110);
        d.row(1, 1, 0b100);
        for (int y = 0; y < 16; y++) {
            d.row(4, y, -1);
        }
        Due.is("two and one", 3, () -> d.likeness(0, 1));
        Due.is("the other way round", 3, () -> d.likeness(1, 0));
        Due.is("with itself", 0, () -> d.likeness(1, 1));
        Due.is("turned", -1, () -> d.likeness(0, 2));
        Due.is("higher", -1, () -> d.likeness(0, 3));
        Due.is("all", 256, () -> d.likeness(4, 5));
        int[] wrong = {-1, 6, LOWEST, HIGHEST};
        for (int w : wrong) {
            Due.index("a is " + w, () -> d.likeness(w, 0));
            Due.index("b is " + w, () -> d.likeness(0, w));
        }
    }

    /** Symbols of one row, four wide. */
    private static SymbolDictionaries rows(int... rows) {
        SymbolDictionaries d = new SymbolDictionaries(0);
        for (int bits : rows) {
            d.row(d.symbol(4, 1), 0, bits);
        }
        return d;
    }

    private static void dueClasses(SymbolDictionaries d, int bound, int howMany, int... due) {
        Due.is("classes(" + bound + ")", howMany, () -> d.classes(bound));
        for (int i = 0; i < due.length; i++) {
            int symbol = i;
            Due.is("classes(" + bound + "), cls(" + i + ")", due[i], () -> d.cls(symbol));
        }
    }

    private static void classesByTheirFirst() {
        SymbolDictionaries d = rows(0b0000, 0b0001, 0b0011, 0b0111, 0b0000);
        dueClasses(d, 0, 4, 0, 1, 2, 3, 0);
        dueClasses(d, 1, 2, 0, 0, 1, 1, 0);
        dueClasses(d, 2, 2, 0, 0, 0, 1, 0);
        dueClasses(d, 3, 1, 0, 0, 0, 0, 0);
    }

    private static void firstClassThatFits() {
        SymbolDictionaries d = rows(0b0000, 0b0111, 0b0011, 0b0111);
        dueClasses(d, 2, 2, 0, 1, 0, 1);
        int other = d.symbol(1, 4);
        dueClasses(d, HIGHEST, 2, 0, 0, 0, 0);
        Due.is("another size", 1, () -> d.cls(other));
    }

    private static void bounds() {
        SymbolDictionaries d = new SymbolDictionaries(2);
        Due.is("none", 0, () -> d.classes(0));
        d.symbol(1, 1);
        d.classes(5);
        int[] wrong = {-1, LOWEST};
        for (int bound : wrong) {
            Due.argument("bound " + bound, () -> d.classes(bound));
        }
        Due.is("the latest classes stay", 0, () -> d.cls(0));
        for (int i = 1; i < 40; i++) {
            d.symbol(i % 16 + 1, i / 16 + 1);
        }
        Due.is("each of its own size", 40, () -> d.classes(256));
        Due.is("the last class", 39, () -> d.cls(39));
    }

    private static void clsBeforeAndLater() {
        SymbolDictionaries d = rows(1, 2);
        Due.is("before", -1, () -> d.cls(0));
        d.classes(0);
        d.symbol(4, 1);
        Due.is("it was there", 1, () -> d.cls(1));
        Due.is("it was not there", -1, () -> d.cls(2));
        d.row(1, 0, 1);
        Due.is("a later change does not count", 1, () -> d.cls(1));
        d.classes(0);
        Due.is("till the next", 0, () -> d.cls(1));
        Due.is("the new one too", 1, () -> d.cls(2));
        int[] wrong = {-1, 3, LOWEST, HIGHEST};
        for (int w : wrong) {
            Due.index("cls " + w, () -> d.cls(w));
        }
    }

    private static void clsBehindReading() {
        SymbolDictionaries d = rows(1, 2);
        d.classes(0);
        d.feed(0);
        Due.is("refused", -8, () -> d.read());
        Due.is("the dictionary stays, with its classes", 1, () -> d.cls(1));
        d.write();
        d.pass();
        Due.is("read", 2, () -> d.read());
        Due.is("these were not there", -1, () -> d.cls(0));
        Due.is("these were not there", -1, () -> d.cls(1));
    }
}
