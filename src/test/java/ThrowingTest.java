import java.util.ArrayList;
import java.util.List;
import java.util.function.Supplier;
import java.util.function.ToLongFunction;

/** What the terms say of exceptions, of every call that throws: which one, and that nothing changes. */
public final class ThrowingTest {
    private static final int NONE = SymbolDictionaries.NONE;
    private static final int LOWEST = Integer.MIN_VALUE;
    private static final int HIGHEST = Integer.MAX_VALUE;
    /** What no symbol's number is, of three symbols; NONE is among them. */
    private static final int[] NO_SYMBOL = {LOWEST, -2, NONE, 3, 4, 39, 40, 41, HIGHEST};

    private record Call(String name, ToLongFunction<Counted> made) {
    }

    public static void main(String[] args) {
        noSuchSymbol();
        noSymbolAtAll();
        noSuchSample();
        noSuchByte();
        noSuchNumber();
        moreThanThereMayBe();
        theFirstOfSeveral();
        nothingChanges();
        Due.end();
    }

    /** Three symbols, the first 3 wide and 2 high, with all that there can be about them. */
    private static Counted some(int kind) {
        Counted d = new Counted(kind);
        d.symbol(3, 2);
        d.symbol(2, 2);
        d.row(1, 0, 0b01);
        d.symbol(3, 2);
        d.row(2, 1, 0b110);
        d.refined(2, 1, 2, -1);
        d.export(1, true);
        d.classes(3);
        d.write();
        d.pass();
        d.put(0, 1, 1, true);
        d.feed(7);
        return d;
    }

    private static List<Call> ofNoSymbol(int s) {
        List<Call> calls = new ArrayList<>();
        calls.add(new Call("put " + s, d -> Due.of(d.put(s, 0, 0, true))));
        calls.add(new Call("row " + s, d -> d.row(s, 0, -1)));
        calls.add(new Call("at " + s, d -> Due.of(d.at(s, 0, 0))));
        calls.add(new Call("refined " + s, d -> d.refined(s, 0, 0, 0)));
        calls.add(new Call("refined to none " + s, d -> d.refined(s, NONE, 0, 0)));
        calls.add(new Call("export " + s, d -> Due.of(d.export(s, true))));
        calls.add(new Call("told " + s, d -> d.told(s, 0)));
        calls.add(new Call("likeness, a is " + s, d -> d.likeness(s, 0)));
        calls.add(new Call("likeness, b is " + s, d -> d.likeness(0, s)));
        calls.add(new Call("likeness, both are " + s, d -> d.likeness(s, s)));
        calls.add(new Call("cls " + s, d -> d.cls(s)));
        if (s != NONE) {
            calls.add(new Call("refined by " + s, d -> d.refined(2, s, 0, 0)));
        }
        return calls;
    }

    private static void noSuchSymbol() {
        Due.sentence("Terms", "IndexOutOfBounds: there is no such symbol");
        for (int symbol : NO_SYMBOL) {
            Counted d = some(0);
            for (Call call : ofNoSymbol(symbol)) {
                Due.index(call.name, () -> call.made.applyAsLong(d));
            }
        }
    }

    private static void noSymbolAtAll() {
        Due.sentence("Terms", "IndexOutOfBounds: there is no such symbol");
        Counted d = new Counted(0);
        for (Call call : ofNoSymbol(0)) {
            Due.index("of an empty dictionary: " + call.name, () -> call.made.applyAsLong(d));
        }
        Counted cleared = some(0);
        cleared.clear();
        for (Call call : ofNoSymbol(0)) {
            Due.index("behind clear(): " + call.name, () -> call.made.applyAsLong(cleared));
        }
    }

    private static List<Call> ofNoSample() {
        int[][] places = {{-1, 0}, {3, 0}, {0, -1}, {0, 2}, {3, 2}, {LOWEST, 0}, {HIGHEST, 0}, {0, LOWEST}, {0, HIGHEST}, {16, 0},
            {0, 16}};
        List<Call> calls = new ArrayList<>();
        for (int[] p : places) {
            calls.add(new Call("put at " + p[0] + " " + p[1], d -> Due.of(d.put(0, p[0], p[1], true))));
            calls.add(new Call("put white at " + p[0] + " " + p[1], d -> Due.of(d.put(0, p[0], p[1], false))));
            calls.add(new Call("at " + p[0] + " " + p[1], d -> Due.of(d.at(0, p[0], p[1]))));
        }
        int[] rows = {-1, 2, 3, 16, LOWEST, HIGHEST};
        for (int y : rows) {
            calls.add(new Call("row " + y, d -> d.row(0, y, -1)));
            calls.add(new Call("row " + y + " of no bits", d -> d.row(0, y, 0)));
        }
        return calls;
    }

    private static void noSuchSample() {
        Due.sentence("Terms", "IndexOutOfBounds: there is no such symbol, sample");
        Counted d = some(0);
        for (Call call : ofNoSample()) {
            Due.index(call.name, () -> call.made.applyAsLong(d));
        }
    }

    private static List<Call> ofNoByte() {
        List<Call> calls = new ArrayList<>();
        int[] far = {LOWEST, -1, 3000, HIGHEST};
        for (int i : far) {
            calls.add(new Call("byte " + i, d -> d.byteAt(i)));
        }
        calls.add(new Call("the byte behind the last", d -> d.byteAt(d.count(1))));
        return calls;
    }

    private static void noSuchByte() {
        Due.sentence("Terms", "IndexOutOfBounds: there is no such symbol, sample, byte.");
        for (int kind = 0; kind <= 2; kind++) {
            Counted d = some(kind);
            for (Call call : ofNoByte()) {
                Due.index(call.name, () -> call.made.applyAsLong(d));
            }
            Counted nothingWritten = new Counted(kind);
            nothingWritten.symbol(1, 1);
            Due.index("byte 0, if nothing was written", () -> nothingWritten.byteAt(0));
        }
    }

    private static List<Call> ofWrongNumber() {
        List<Call> calls = new ArrayList<>();
        int[] sides = {LOWEST, -1, 0, 17, HIGHEST};
        for (int side : sides) {
            calls.add(new Call("width " + side, d -> d.symbol(side, 1)));
            calls.add(new Call("height " + side, d -> d.symbol(1, side)));
        }
        int[] shifts = {LOWEST, -5, 5, HIGHEST};
        for (int shift : shifts) {
            calls.add(new Call("DX " + shift, d -> d.refined(2, 0, shift, 0)));
            calls.add(new Call("DY " + shift, d -> d.refined(2, 0, 0, shift)));
        }
        int[] bytes = {LOWEST, -1, 256, HIGHEST};
        for (int b : bytes) {
            calls.add(new Call("feed " + b, d -> d.feed(b)));
        }
        int[] whats = {LOWEST, -1, 8, HIGHEST};
        for (int what : whats) {
            calls.add(new Call("told " + what, d -> d.told(0, what)));
        }
        int[] bounds = {LOWEST, -1};
        for (int bound : bounds) {
            calls.add(new Call("classes " + bound, d -> d.classes(bound)));
        }
        return calls;
    }

    private static void noSuchNumber() {
        Due.sentence("Terms", "IllegalArgument: another number is none that is told.");
        Counted d = some(0);
        for (Call call : ofWrongNumber()) {
            Due.argument(call.name, () -> call.made.applyAsLong(d));
        }
    }

    private static Counted fortySymbols(int kind) {
        Counted d = new Counted(kind);
        for (int i = 0; i < 40; i++) {
            d.symbol(1, 1);
        }
        d.write();
        d.pass();
        return d;
    }

    private static void moreThanThereMayBe() {
        Due.sentence("Terms", "UnsupportedOperation: there would be more than there may be.");
        for (int kind = 0; kind <= 2; kind++) {
            Counted forty = fortySymbols(kind);
            Due.unsupported("a 41st symbol", () -> forty.symbol(1, 1));
            Counted full = Waiting.with(kind, 3000);
            Due.unsupported("a 3001st byte", () -> full.feed(0));
            Due.unsupported("more than a byte above", full::pass);
            Counted nearly = Waiting.with(kind, 3001 - Waiting.PASSED);
            Due.unsupported("one byte above", nearly::pass);
        }
    }

    private static void theFirstOfSeveral() {
        Due.sentence("Terms", "Of several that a call names, the first one.");
        Counted forty = fortySymbols(0);
        Due.argument("symbol: IllegalArgument, UnsupportedOperation", () -> forty.symbol(0, 1));
        Due.argument("symbol: by its height", () -> forty.symbol(1, 17));
        Counted d = some(0);
        for (int s : NO_SYMBOL) {
            Due.index("refined: IndexOutOfBounds, IllegalArgument", () -> d.refined(s, 0, 5, 0));
            Due.index("refined: all of them", () -> d.refined(s, s, 5, 0));
            Due.index("told: IndexOutOfBounds, IllegalArgument", () -> d.told(s, 8));
        }
        Due.index("refined: no such base, IllegalArgument", () -> d.refined(2, 3, 5, 0));
        Due.argument("refined: IllegalArgument, IllegalState", () -> d.refined(1, 2, 5, 0));
        Due.argument("refined: itself, IllegalArgument", () -> d.refined(1, 1, 0, -5));
        Counted full = Waiting.with(0, 3000);
        Due.argument("feed: IllegalArgument, UnsupportedOperation", () -> full.feed(256));
        Due.argument("feed: by a number below 0", () -> full.feed(-1));
    }

    private static void nothingChanges() {
        Due.sentence("Terms", "A call that throws changes nothing.");
        List<Call> calls = new ArrayList<>();
        for (int symbol : NO_SYMBOL) {
            calls.addAll(ofNoSymbol(symbol));
        }
        calls.addAll(ofNoSample());
        calls.addAll(ofNoByte());
        calls.addAll(ofWrongNumber());
        calls.add(new Call("a base that is not before", d -> d.refined(0, 2, 1, 1)));
        calls.add(new Call("a base that is itself", d -> d.refined(2, 2, 1, 1)));
        for (int kind = 0; kind <= 2; kind++) {
            int k = kind;
            dueUnchanged(calls, () -> some(k));
            dueUnchanged(List.of(new Call("a 41st symbol", d -> d.symbol(1, 1))), () -> fortySymbols(k));
            List<Call> tooMuch = List.of(new Call("a 3001st byte", d -> d.feed(255)), new Call("pass above 3000", Counted::pass));
            dueUnchanged(tooMuch, () -> Waiting.with(k, 3000));
            dueUnchanged(tooMuch.subList(1, 2), () -> Waiting.with(k, 3001 - Waiting.PASSED));
        }
    }

    private static void dueUnchanged(List<Call> calls, Supplier<Counted> state) {
        String before = new Alike(state).all();
        String beforeIsRead = new Alike(() -> afterReading(state.get())).all();
        for (Call call : calls) {
            Supplier<Counted> behind = () -> {
                Counted d = state.get();
                String answer = Due.told(() -> call.made.applyAsLong(d));
                Due.is(call.name + " throws", true, () -> answer.endsWith("Exception"));
                return d;
            };
            Due.same("behind " + call.name, new Alike(behind).all(), before);
            Due.same("read behind " + call.name, new Alike(() -> afterReading(behind.get())).all(), beforeIsRead);
        }
    }

    /** What is to be read can only be seen by reading it. */
    private static Counted afterReading(Counted d) {
        d.read();
        return d;
    }
}
