/** Promises 1 to 7, 13, 17 and 18: the symbols, and what is asked and told of them. */
public final class SymbolsTest {
    private static final int LOWEST = Integer.MIN_VALUE;
    private static final int HIGHEST = Integer.MAX_VALUE;

    public static void main(String[] args) {
        newObject();
        symbol();
        put();
        row();
        at();
        refined();
        refinedWrongly();
        export();
        told();
        order();
        count();
        clear();
        Due.end();
    }

    private static void newObject() {
        int[][] kinds = {{LOWEST, 0}, {-1, 0}, {0, 0}, {1, 1}, {2, 2}, {3, 2}, {HIGHEST, 2}};
        for (int[] k : kinds) {
            SymbolDictionaries d = new SymbolDictionaries(k[0]);
            Due.is("kind of " + k[0], k[1], () -> d.count(3));
            Due.is("symbols at first", 0, () -> d.count(0));
            Due.is("written at first", 0, () -> d.count(1));
            Due.is("to be read at first", 0, () -> d.count(2));
            Due.index("no symbol at first", () -> d.told(0, 0));
            Due.index("no byte at first", () -> d.byteAt(0));
        }
    }

    private static void symbol() {
        SymbolDictionaries d = new SymbolDictionaries(0);
        int[] wrongSides = {LOWEST, -1, 0, 17, HIGHEST};
        for (int side : wrongSides) {
            Due.argument("width " + side, () -> d.symbol(side, 1));
            Due.argument("height " + side, () -> d.symbol(1, side));
        }
        Due.is("no symbol was made", 0, () -> d.count(0));
        for (int i = 0; i < 40; i++) {
            int side = i % 16 + 1;
            Due.is("symbol " + i, i, () -> d.symbol(side, 17 - side));
        }
        Due.unsupported("symbol 40", () -> d.symbol(1, 1));
        Due.argument("symbol 40, too wide: the first exception goes first", () -> d.symbol(17, 1));
        Due.is("still 40", 40, () -> d.count(0));
        for (int i = 0; i < 40; i++) {
            int symbol = i;
            int side = i % 16 + 1;
            Due.is("width", side, () -> d.told(symbol, 0));
            Due.is("height", 17 - side, () -> d.told(symbol, 1));
            Due.is("white", 0, () -> d.told(symbol, 2));
            Due.is("not exported", 0, () -> d.told(symbol, 3));
            Due.is("no base", -1, () -> d.told(symbol, 4));
        }
    }

    private static void put() {
        SymbolDictionaries d = new SymbolDictionaries(0);
        d.symbol(3, 2);
        d.symbol(16, 16);
        Due.is("white is white", 0, () -> Due.of(d.put(0, 2, 1, false)));
        Due.is("to black", 1, () -> Due.of(d.put(0, 2, 1, true)));
        Due.is("black again", 0, () -> Due.of(d.put(0, 2, 1, true)));
        Due.is("one is black", 1, () -> d.told(0, 2));
        Due.is("the other symbol stays", 0, () -> d.told(1, 2));
        Due.is("back to white", 1, () -> Due.of(d.put(0, 2, 1, false)));
        Due.is("none is black", 0, () -> d.told(0, 2));
        Due.is("the last sample", 1, () -> Due.of(d.put(1, 15, 15, true)));
        noSuchSample("put", (s, x, y) -> Due.of(d.put(s, x, y, true)));
        Due.is("nothing changed", 0, () -> d.told(0, 2));
    }

    private static void at() {
        SymbolDictionaries d = new SymbolDictionaries(0);
        d.symbol(3, 2);
        d.symbol(16, 16);
        d.put(0, 1, 0, true);
        d.put(0, 2, 1, true);
        int[][] samples = {{0, 1, 0}, {0, 0, 1}};
        for (int y = 0; y < 2; y++) {
            for (int x = 0; x < 3; x++) {
                int px = x;
                int py = y;
                Due.is("at " + x + " " + y, samples[y][x], () -> Due.of(d.at(0, px, py)));
            }
        }
        noSuchSample("at", (s, x, y) -> Due.of(d.at(s, x, y)));
    }

    private interface OfSample {
        long answer(int symbol, int x, int y);
    }

    /** Of two symbols, the first 3 wide and 2 high. */
    private static void noSuchSample(String what, OfSample call) {
        int[][] wrong = {{-1, 0, 0}, {2, 0, 0}, {LOWEST, 0, 0}, {HIGHEST, 0, 0}, {0, -1, 0}, {0, 3, 0}, {0, 0, -1},
            {0, 0, 2}, {0, LOWEST, 0}, {0, HIGHEST, 0}, {0, 0, LOWEST}, {0, 0, HIGHEST}};
        for (int[] w : wrong) {
            Due.index(what + " " + w[0] + " " + w[1] + " " + w[2], () -> call.answer(w[0], w[1], w[2]));
        }
    }

    private static void row() {
        SymbolDictionaries d = new SymbolDictionaries(0);
        d.symbol(3, 2);
        d.symbol(16, 16);
        Due.is("lowest first", 1, () -> d.row(0, 0, 1));
        Due.is("the lowest is to the left", 1, () -> Due.of(d.at(0, 0, 0)));
        Due.is("the highest is to the right", 1, () -> d.row(0, 0, 4));
        Due.is("the right one", 1, () -> Due.of(d.at(0, 2, 0)));
        Due.is("what was there goes", 0, () -> Due.of(d.at(0, 0, 0)));
        Due.is("bits beyond", 0, () -> d.row(0, 1, 8));
        Due.is("all bits", 3, () -> d.row(0, 1, -1));
        Due.is("both rows", 4, () -> d.told(0, 2));
        Due.is("sixteen", 16, () -> d.row(1, 15, -1));
        Due.is("above sixteen", 0, () -> d.row(1, 15, 0xFFFF0000));
        int[][] wrong = {{-1, 0}, {2, 0}, {LOWEST, 0}, {HIGHEST, 0}, {0, -1}, {0, 2}, {0, LOWEST}, {0, HIGHEST}, {1, 16}};
        for (int[] w : wrong) {
            Due.index("row " + w[0] + " " + w[1], () -> d.row(w[0], w[1], 7));
        }
        Due.is("nothing changed", 4, () -> d.told(0, 2));
    }

    private static void refined() {
        SymbolDictionaries d = new SymbolDictionaries(0);
        d.symbol(2, 2);
        d.symbol(2, 2);
        d.symbol(1, 2);
        Due.is("the first base", -1, () -> d.refined(1, 0, -4, 4));
        Due.is("base", 0, () -> d.told(1, 4));
        Due.is("DX", -4, () -> d.told(1, 5));
        Due.is("DY", 4, () -> d.told(1, 6));
        Due.is("a narrower one comes before", 0, () -> d.refined(1, 2, 4, -4));
        Due.is("base", 2, () -> d.told(1, 4));
        Due.is("DX", 4, () -> d.told(1, 5));
        Due.is("DY", -4, () -> d.told(1, 6));
        Due.is("no base more; the shift is not looked at", 2, () -> d.refined(1, SymbolDictionaries.NONE, 99, -99));
        Due.is("base", -1, () -> d.told(1, 4));
        Due.is("DX", 0, () -> d.told(1, 5));
        Due.is("DY", 0, () -> d.told(1, 6));
        Due.is("none had none", -1, () -> d.refined(1, -1, 0, 0));
    }

    private static void refinedWrongly() {
        SymbolDictionaries d = new SymbolDictionaries(0);
        d.symbol(2, 2);
        d.symbol(2, 2);
        d.symbol(1, 3);
        d.refined(1, 0, 1, 2);
        int[][] noSuch = {{-1, 0}, {3, 0}, {LOWEST, -1}, {HIGHEST, -1}, {1, -2}, {1, 3}, {1, LOWEST}, {1, HIGHEST}};
        for (int[] n : noSuch) {
            Due.index("refined " + n[0] + " " + n[1], () -> d.refined(n[0], n[1], 0, 0));
            Due.index("the first exception goes first", () -> d.refined(n[0], n[1], 5, 5));
        }
        int[] shifts = {-5, 5, LOWEST, HIGHEST};
        for (int shift : shifts) {
            Due.argument("DX " + shift, () -> d.refined(1, 0, shift, 0));
            Due.argument("DY " + shift, () -> d.refined(1, 0, 0, shift));
            Due.argument("before the state", () -> d.refined(0, 1, shift, 0));
        }
        Due.state("by its number", () -> d.refined(0, 1, 0, 0));
        Due.state("itself", () -> d.refined(1, 1, 0, 0));
        Due.state("by its height, though narrower", () -> d.refined(1, 2, 0, 0));
        Due.is("the base stays", 0, () -> d.told(1, 4));
        Due.is("DX stays", 1, () -> d.told(1, 5));
        Due.is("DY stays", 2, () -> d.told(1, 6));
    }

    private static void export() {
        SymbolDictionaries d = new SymbolDictionaries(0);
        d.symbol(1, 1);
        d.symbol(1, 1);
        Due.is("not, as before", 0, () -> Due.of(d.export(1, false)));
        Due.is("on", 1, () -> Due.of(d.export(1, true)));
        Due.is("on again", 0, () -> Due.of(d.export(1, true)));
        Due.is("told", 1, () -> d.told(1, 3));
        Due.is("the other is not", 0, () -> d.told(0, 3));
        Due.is("off", 1, () -> Due.of(d.export(1, false)));
        Due.is("told", 0, () -> d.told(1, 3));
        int[] wrong = {-1, 2, LOWEST, HIGHEST};
        for (int symbol : wrong) {
            Due.index("export " + symbol, () -> Due.of(d.export(symbol, true)));
        }
    }

    private static void told() {
        SymbolDictionaries d = new SymbolDictionaries(0);
        d.symbol(4, 3);
        d.symbol(6, 5);
        d.row(1, 4, 0b101101);
        d.export(1, true);
        d.refined(1, 0, 3, -2);
        int[] due = {6, 5, 4, 1, 0, 3, -2, 1};
        for (int what = 0; what < due.length; what++) {
            int w = what;
            Due.is("told " + what, due[what], () -> d.told(1, w));
        }
        int[] wrong = {-1, 8, LOWEST, HIGHEST};
        for (int w : wrong) {
            Due.argument("what " + w, () -> d.told(1, w));
            Due.index("symbol " + w, () -> d.told(w, 0));
            Due.index("the first exception goes first", () -> d.told(w, w));
        }
        Due.index("symbol 2", () -> d.told(2, 0));
    }

    private static void order() {
        SymbolDictionaries d = new SymbolDictionaries(0);
        int[][] sizes = {{9, 2}, {1, 3}, {2, 2}, {16, 1}, {2, 2}, {1, 16}, {9, 2}};
        int[] places = {3, 5, 1, 0, 2, 6, 4};
        for (int[] size : sizes) {
            d.symbol(size[0], size[1]);
        }
        for (int i = 0; i < places.length; i++) {
            int symbol = i;
            Due.is("place of " + i, places[i], () -> d.told(symbol, 7));
        }
    }

    private static void count() {
        SymbolDictionaries d = new SymbolDictionaries(1);
        d.symbol(1, 1);
        d.symbol(1, 1);
        d.symbol(1, 1);
        int bytes = d.write();
        d.feed(1);
        d.feed(2);
        Due.is("symbols", 3, () -> d.count(0));
        Due.is("bytes written", bytes, () -> d.count(1));
        Due.is("bytes to be read", 2, () -> d.count(2));
        Due.is("kind", 1, () -> d.count(3));
        int[] others = {-1, 4, LOWEST, HIGHEST};
        for (int what : others) {
            Due.is("count " + what, -1, () -> d.count(what));
        }
    }

    private static void clear() {
        for (int kind = 0; kind <= 2; kind++) {
            SymbolDictionaries d = new SymbolDictionaries(kind);
            d.symbol(3, 1);
            d.symbol(2, 2);
            d.row(1, 1, 3);
            d.export(1, true);
            d.refined(1, 0, 1, 1);
            d.classes(0);
            d.write();
            d.pass();
            d.clear();
            Due.is("no symbols", 0, () -> d.count(0));
            Due.is("nothing written", 0, () -> d.count(1));
            Due.is("nothing to be read", 0, () -> d.count(2));
            Due.is("the kind stays", kind, () -> d.count(3));
            Due.index("no symbol", () -> d.told(0, 0));
            Due.index("no byte", () -> d.byteAt(0));
            Due.is("nothing to pass", 0, () -> d.pass());
            d.symbol(2, 2);
            d.symbol(2, 2);
            int[] due = {2, 2, 0, 0, -1, 0, 0, 1};
            for (int what = 0; what < due.length; what++) {
                int w = what;
                Due.is("a new symbol is new: " + what, due[what], () -> d.told(1, w));
            }
            Due.is("and in no class", -1, () -> d.cls(1));
        }
    }
}
