/** An object of the class, its calls counted: nothing is promised beyond the 512th, so a test may not ask more. */
final class Counted {
    static final int MOST_CALLS = 512;

    private final SymbolDictionaries d;
    private int calls;

    Counted(int kind) {
        d = new SymbolDictionaries(kind);
    }

    /** An object with a life before, of black symbols, cleared: what it had must not show any more. */
    static Counted cleared(int kind) {
        Counted d = new Counted(kind);
        for (int i = 0; i < 3; i++) {
            d.symbol(16, 16);
            for (int y = 0; y < 16; y++) {
                d.row(i, y, -1);
            }
            d.export(i, true);
            d.refined(i, i - 1, 4, -4);
        }
        d.symbol(1, 1);
        d.classes(0);
        d.write();
        d.pass();
        d.read();
        d.classes(0);
        for (int i = 0; i < 20; i++) {
            d.feed(255);
        }
        d.read();
        d.write();
        d.clear();
        return d;
    }

    int callsLeft() {
        return MOST_CALLS - calls;
    }

    private SymbolDictionaries called() {
        if (calls == MOST_CALLS) {
            throw new AssertionError("the test makes more than 512 calls on one object");
        }
        calls++;
        return d;
    }

    int symbol(int width, int height) {
        return called().symbol(width, height);
    }

    boolean put(int symbol, int x, int y, boolean black) {
        return called().put(symbol, x, y, black);
    }

    int row(int symbol, int y, int bits) {
        return called().row(symbol, y, bits);
    }

    boolean at(int symbol, int x, int y) {
        return called().at(symbol, x, y);
    }

    int refined(int symbol, int base, int dx, int dy) {
        return called().refined(symbol, base, dx, dy);
    }

    boolean export(int symbol, boolean on) {
        return called().export(symbol, on);
    }

    int write() {
        return called().write();
    }

    int byteAt(int i) {
        return called().byteAt(i);
    }

    int feed(int b) {
        return called().feed(b);
    }

    int pass() {
        return called().pass();
    }

    int read() {
        return called().read();
    }

    int told(int symbol, int what) {
        return called().told(symbol, what);
    }

    int likeness(int a, int b) {
        return called().likeness(a, b);
    }

    int classes(int bound) {
        return called().classes(bound);
    }

    int cls(int symbol) {
        return called().cls(symbol);
    }

    int count(int what) {
        return called().count(what);
    }

    void clear() {
        called().clear();
    }
}
