import java.util.Random;
import java.util.function.LongSupplier;

/** All promises: long runs of calls by a fixed seed, each answer held against the model's. */
public final class ModelTest {
    private static final int RUNS = 2400;
    private static final int[] ODD = {-1, -2, 0, 1, 16, 17, 40, 41, 255, 256, Integer.MIN_VALUE, Integer.MAX_VALUE};

    private final Random random;
    private final String name;
    private final Counted d;
    private final Model m;
    private final int largest;
    private final int[] refusals = new int[9];

    private ModelTest(int run) {
        random = new Random(run);
        name = "run " + run + ": ";
        int kind = run % 3;
        d = new Counted(kind);
        m = new Model(kind);
        largest = run % 5 == 0 ? 16 : 1 + random.nextInt(6);
    }

    public static void main(String[] args) {
        int[] answers = new int[9];
        for (int run = 0; run < RUNS && Due.wrong() < 20; run++) {
            ModelTest test = new ModelTest(run);
            test.play();
            for (int i = 0; i < answers.length; i++) {
                answers[i] += test.refusals[i];
            }
        }
        for (int why = 0; why < 8; why++) {
            int w = why;
            Due.is("the runs meet refusal " + why, 1, () -> Due.of(answers[w] > 0));
        }
        Due.end();
    }

    private void play() {
        while (d.callsLeft() > 0) {
            int what = random.nextInt(100);
            if (what < 60) {
                changeSymbols(what);
            } else if (what < 80) {
                ask(what);
            } else {
                exchange(what);
            }
        }
    }

    /** Makes the call on both, if the object may be asked once more. */
    private void same(String call, LongSupplier ofClass, LongSupplier ofModel) {
        if (d.callsLeft() == 0) {
            return;
        }
        Due.same(name + call, Due.told(ofClass), Due.told(ofModel));
    }

    private int anyOf(int bound) {
        return random.nextInt(30) == 0 ? ODD[random.nextInt(ODD.length)] : random.nextInt(Math.max(1, bound));
    }

    private int anySymbol() {
        return anyOf(m.count(0));
    }

    private void changeSymbols(int what) {
        int symbol = anySymbol();
        int other = anySymbol();
        int x = anyOf(largest);
        int y = anyOf(largest);
        boolean on = random.nextBoolean();
        if (what < 10) {
            int width = x + 1;
            int height = y + 1;
            same("symbol " + width + " " + height, () -> d.symbol(width, height), () -> m.symbol(width, height));
        } else if (what < 20) {
            same("put " + symbol + " " + x + " " + y, () -> Due.of(d.put(symbol, x, y, on)), () -> Due.of(m.put(symbol, x, y, on)));
        } else if (what < 40) {
            int bits = random.nextInt();
            same("row " + symbol + " " + y, () -> d.row(symbol, y, bits), () -> m.row(symbol, y, bits));
        } else if (what < 52) {
            int base = random.nextInt(6) == 0 ? -1 : other;
            int dx = anyOf(9) - 4;
            int dy = anyOf(9) - 4;
            same("refined " + symbol + " " + base, () -> d.refined(symbol, base, dx, dy), () -> m.refined(symbol, base, dx, dy));
        } else {
            same("export " + symbol, () -> Due.of(d.export(symbol, on)), () -> Due.of(m.export(symbol, on)));
        }
    }

    private void ask(int what) {
        int symbol = anySymbol();
        int other = anySymbol();
        if (what < 64) {
            int x = anyOf(largest);
            int y = anyOf(largest);
            same("at " + symbol + " " + x + " " + y, () -> Due.of(d.at(symbol, x, y)), () -> Due.of(m.at(symbol, x, y)));
        } else if (what < 70) {
            int w = anyOf(9);
            same("told " + symbol + " " + w, () -> d.told(symbol, w), () -> m.told(symbol, w));
        } else if (what < 72) {
            same("likeness " + symbol + " " + other, () -> d.likeness(symbol, other), () -> m.likeness(symbol, other));
        } else if (what < 74) {
            int bound = anyOf(largest) - (random.nextInt(20) == 0 ? 1 : 0);
            same("classes " + bound, () -> d.classes(bound), () -> m.classes(bound));
        } else if (what < 78) {
            same("cls " + symbol, () -> d.cls(symbol), () -> m.cls(symbol));
        } else {
            int w = anyOf(5);
            same("count " + w, () -> d.count(w), () -> m.count(w));
        }
    }

    private void exchange(int what) {
        if (what < 84) {
            writeAndLook();
        } else if (what < 88) {
            same("pass", d::pass, m::pass);
        } else if (what < 90) {
            int b = anyOf(256);
            same("feed " + b, () -> d.feed(b), () -> m.feed(b));
        } else if (what < 93) {
            readAndLook();
        } else if (what < 96) {
            feedSpoiled();
        } else if (what < 98) {
            feedAnything();
        } else if (random.nextInt(8) == 0) {
            d.clear();
            m.clear();
        }
    }

    /** Some of the bytes: the last ones, where all that went before shows, and a few others. */
    private void writeAndLook() {
        same("write", d::write, m::write);
        int bytes = m.count(1);
        for (int i = 0; i < 6; i++) {
            int at = i < 3 ? bytes - i : random.nextInt(bytes + 1);
            same("byte " + at, () -> d.byteAt(at), () -> m.byteAt(at));
        }
    }

    private void readAndLook() {
        if (d.callsLeft() == 0) {
            return;
        }
        int due = m.read();
        if (due < 0) {
            refusals[-1 - due]++;
        }
        same("read", d::read, () -> due);
        same("symbols", () -> d.count(0), () -> m.count(0));
        for (int i = 0; i < 3 && m.count(0) > 0; i++) {
            look(random.nextInt(m.count(0)));
        }
    }

    private void look(int symbol) {
        for (int w = 2; w < 8; w++) {
            int what = w;
            same("told " + symbol + " " + w, () -> d.told(symbol, what), () -> m.told(symbol, what));
        }
        same("cls " + symbol, () -> d.cls(symbol), () -> m.cls(symbol));
        for (int i = 0; i < 3; i++) {
            int x = random.nextInt(m.told(symbol, 0));
            int y = random.nextInt(m.told(symbol, 1));
            same("at " + symbol + " " + x + " " + y, () -> Due.of(d.at(symbol, x, y)), () -> Due.of(m.at(symbol, x, y)));
        }
    }

    /** What was written, with a bit or two turned, or cut short. */
    private void feedSpoiled() {
        readAndLook();
        int[] bytes = new int[m.count(1)];
        for (int i = 0; i < bytes.length; i++) {
            bytes[i] = m.byteAt(i);
        }
        int turns = random.nextInt(3);
        for (int i = 0; i < turns && bytes.length > 0; i++) {
            bytes[random.nextInt(bytes.length)] ^= 1 << random.nextInt(8);
        }
        int length = random.nextInt(3) == 0 ? random.nextInt(bytes.length + 1) : bytes.length;
        for (int i = 0; i < length; i++) {
            int b = bytes[i];
            same("feed " + b, () -> d.feed(b), () -> m.feed(b));
        }
        readAndLook();
    }

    private void feedAnything() {
        int length = random.nextInt(60);
        for (int i = 0; i < length; i++) {
            int b = i == 0 && random.nextBoolean() ? 64 + random.nextInt(64) : random.nextInt(256);
            same("feed " + b, () -> d.feed(b), () -> m.feed(b));
        }
        readAndLook();
    }
}
