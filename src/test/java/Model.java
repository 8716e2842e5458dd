import java.util.ArrayList;
import java.util.Comparator;
import java.util.List;

/** The document's promises once more, in another and slower way, to be held against the class. */
final class Model {
    private static final class Sign {
        final int width;
        final int height;
        final boolean[][] black;
        boolean exported;
        Sign base;
        int dx;
        int dy;
        int cls = -1;

        Sign(int width, int height) {
            this.width = width;
            this.height = height;
            black = new boolean[height][width];
        }

        boolean at(int x, int y) {
            return x >= 0 && y >= 0 && x < width && y < height && black[y][x];
        }

        boolean foretold(int x, int y) {
            return base != null && base.at(x - dx, y - dy);
        }
    }

    private static final class Refused extends RuntimeException {
        private static final long serialVersionUID = 1L;
        final int why;

        Refused(int why) {
            this.why = why;
        }
    }

    private final int kind;
    private List<Sign> signs = new ArrayList<>();
    private int[] written = {};
    private final List<Integer> waiting = new ArrayList<>();

    Model(int kind) {
        this.kind = kind < 0 ? 0 : kind > 2 ? 2 : kind;
    }

    int symbol(int width, int height) {
        if (width < 1 || height < 1 || width > 16 || height > 16) {
            throw new IllegalArgumentException();
        }
        if (signs.size() == 40) {
            throw new UnsupportedOperationException();
        }
        signs.add(new Sign(width, height));
        return signs.size() - 1;
    }

    private Sign sign(int symbol) {
        if (symbol < 0 || symbol >= signs.size()) {
            throw new IndexOutOfBoundsException();
        }
        return signs.get(symbol);
    }

    private Sign signWith(int symbol, int x, int y) {
        Sign s = sign(symbol);
        if (x < 0 || y < 0 || x >= s.width || y >= s.height) {
            throw new IndexOutOfBoundsException();
        }
        return s;
    }

    boolean put(int symbol, int x, int y, boolean black) {
        Sign s = signWith(symbol, x, y);
        boolean was = s.black[y][x];
        s.black[y][x] = black;
        return was != black;
    }

    int row(int symbol, int y, int bits) {
        Sign s = signWith(symbol, 0, y);
        int blacks = 0;
        for (int x = 0; x < s.width; x++) {
            s.black[y][x] = (bits & 1 << x) != 0;
            blacks += s.black[y][x] ? 1 : 0;
        }
        return blacks;
    }

    boolean at(int symbol, int x, int y) {
        return signWith(symbol, x, y).black[y][x];
    }

    int refined(int symbol, int base, int dx, int dy) {
        Sign s = sign(symbol);
        Sign b = base == -1 ? null : sign(base);
        if (b != null && (Math.abs((long) dx) > 4 || Math.abs((long) dy) > 4)) {
            throw new IllegalArgumentException();
        }
        if (b != null && order().indexOf(b) >= order().indexOf(s)) {
            throw new IllegalStateException();
        }
        int before = signs.indexOf(s.base);
        s.base = b;
        s.dx = b == null ? 0 : dx;
        s.dy = b == null ? 0 : dy;
        return before;
    }

    boolean export(int symbol, boolean on) {
        Sign s = sign(symbol);
        boolean was = s.exported;
        s.exported = on;
        return was != on;
    }

    private List<Sign> order() {
        List<Sign> order = new ArrayList<>(signs);
        order.sort(Comparator.<Sign>comparingInt(s -> s.height).thenComparingInt(s -> s.width));
        return order;
    }

    int write() {
        List<Sign> order = order();
        BitRow bits = new BitRow().number(order.size());
        for (int height = 1, before = 0; height <= 16; height++) {
            int h = height;
            List<Sign> same = order.stream().filter(s -> s.height == h).toList();
            if (!same.isEmpty()) {
                bits.number(height - before - 1);
                writeClass(bits, same, order);
                before = height;
            }
        }
        int place = 0;
        while (place < order.size()) {
            for (int on = 0; on <= 1; on++) {
                int from = place;
                while (place < order.size() && order.get(place).exported == (on == 1)) {
                    place++;
                }
                if (on == 0 || from < order.size()) {
                    bits.number(place - from);
                }
            }
        }
        written = bits.bytes(kind);
        return written.length;
    }

    private void writeClass(BitRow bits, List<Sign> same, List<Sign> order) {
        int width = 0;
        for (Sign s : same) {
            bits.bit(1).number(s.width - width).bit(s.base == null ? 0 : 1);
            width = s.width;
            if (s.base != null) {
                bits.number(order.indexOf(s) - order.indexOf(s.base) - 1).fourBits(s.dx + 4).fourBits(s.dy + 4);
            }
            String[] plane = new String[s.height];
            for (int y = 0; y < s.height; y++) {
                plane[y] = "";
                for (int x = 0; x < s.width; x++) {
                    plane[y] += s.at(x, y) != s.foretold(x, y) ? "1" : "0";
                }
            }
            bits.plane(kind, s.base != null, plane);
        }
        bits.bit(0);
    }

    int byteAt(int i) {
        if (i < 0 || i >= written.length) {
            throw new IndexOutOfBoundsException();
        }
        return written[i];
    }

    int feed(int b) {
        if (b < 0 || b > 255) {
            throw new IllegalArgumentException();
        }
        if (waiting.size() == 3000) {
            throw new UnsupportedOperationException();
        }
        waiting.add(b);
        return waiting.size();
    }

    int pass() {
        if (waiting.size() + written.length > 3000) {
            throw new UnsupportedOperationException();
        }
        for (int b : written) {
            waiting.add(b);
        }
        return waiting.size();
    }

    int read() {
        try {
            signs = new Source().dictionary();
            return signs.size();
        } catch (Refused refused) {
            return -1 - refused.why;
        } finally {
            waiting.clear();
        }
    }

    /** Bits out of what is waiting; kind 2 finds each by the number that all bytes make. */
    private final class Source {
        private int bitsTaken;
        private final Interval interval = new Interval();

        private int byteOrZero(int i) {
            return i < waiting.size() ? waiting.get(i) : 0;
        }

        private int bit(int context) {
            if (kind < 2) {
                int b = byteOrZero(bitsTaken / 8);
                bitsTaken++;
                return b >> (7 - (bitsTaken - 1) % 8) & 1;
            }
            long code = 0;
            for (int i = 0; i < 4; i++) {
                code = code * 256 + byteOrZero(interval.bytes.size() + i);
            }
            int bit = code <= interval.split(context) ? 1 : 0;
            interval.put(bit, context);
            return bit;
        }

        private int number() {
            int k = 0;
            while (bit(-1) == 0) {
                k++;
                check(k <= 8, 7);
            }
            return (int) Math.pow(2, k) + bits(k) - 1;
        }

        private int bits(int howMany) {
            int value = 0;
            for (int i = 0; i < howMany; i++) {
                value = 2 * value + bit(-1);
            }
            return value;
        }

        private void check(boolean fine, int why) {
            if (!fine) {
                throw new Refused(why);
            }
        }

        List<Sign> dictionary() {
            List<Sign> read = new ArrayList<>();
            int howMany = number();
            check(howMany <= 40, 0);
            int height = 0;
            while (read.size() < howMany) {
                height += number() + 1;
                check(height <= 16, 1);
                int before = read.size();
                int width = 0;
                while (bit(-1) == 1) {
                    check(read.size() < howMany, 0);
                    width += number();
                    check(width >= 1 && width <= 16, 2);
                    read.add(sign(new Sign(width, height), read));
                }
                check(read.size() > before, 1);
            }
            exports(read);
            return read;
        }

        private Sign sign(Sign s, List<Sign> before) {
            if (bit(-1) == 1) {
                int back = number();
                check(back < before.size(), 3);
                s.base = before.get(before.size() - 1 - back);
                s.dx = bits(4) - 4;
                check(s.dx <= 4, 4);
                s.dy = bits(4) - 4;
                check(s.dy <= 4, 4);
            }
            boolean[] plane = kind == 1 ? runs(s) : samples(s);
            for (int i = 0; i < plane.length; i++) {
                s.black[i / s.width][i % s.width] = plane[i] != s.foretold(i % s.width, i / s.width);
            }
            return s;
        }

        private boolean[] runs(Sign s) {
            boolean[] plane = new boolean[s.width * s.height];
            int place = 0;
            for (int run = 0; place < plane.length; run++) {
                int length = number();
                check(place + length <= plane.length, 5);
                for (int i = 0; i < length; i++) {
                    plane[place++] = run % 2 == 1;
                }
            }
            return plane;
        }

        private boolean[] samples(Sign s) {
            Sign plane = new Sign(s.width, s.height);
            boolean[] flat = new boolean[s.width * s.height];
            for (int i = 0; i < flat.length; i++) {
                int x = i % s.width;
                int y = i / s.width;
                int context = (s.base == null ? 0 : 16) + (plane.at(x - 1, y) ? 8 : 0) + (plane.at(x - 1, y - 1) ? 4 : 0)
                    + (plane.at(x, y - 1) ? 2 : 0) + (plane.at(x + 1, y - 1) ? 1 : 0);
                flat[i] = bit(context) == 1;
                plane.black[y][x] = flat[i];
            }
            return flat;
        }

        private void exports(List<Sign> read) {
            int place = 0;
            for (int turn = 0; place < read.size(); turn++) {
                int howMany = number();
                check(place + howMany <= read.size(), 6);
                check(howMany > 0 || turn == 0, 6);
                for (int i = 0; i < howMany; i++) {
                    read.get(place++).exported = turn % 2 == 1;
                }
            }
        }
    }

    int told(int symbol, int what) {
        Sign s = sign(symbol);
        if (what < 0 || what > 7) {
            throw new IllegalArgumentException();
        }
        int black = 0;
        for (boolean[] row : s.black) {
            for (boolean b : row) {
                black += b ? 1 : 0;
            }
        }
        int[] all = {s.width, s.height, black, s.exported ? 1 : 0, signs.indexOf(s.base), s.dx, s.dy, order().indexOf(s)};
        return all[what];
    }

    int likeness(int a, int b) {
        return difference(sign(a), sign(b));
    }

    private static int difference(Sign a, Sign b) {
        if (a.width != b.width || a.height != b.height) {
            return -1;
        }
        int different = 0;
        for (int i = 0; i < a.width * a.height; i++) {
            different += a.at(i % a.width, i / a.width) == b.at(i % a.width, i / a.width) ? 0 : 1;
        }
        return different;
    }

    int classes(int bound) {
        if (bound < 0) {
            throw new IllegalArgumentException();
        }
        List<Sign> firsts = new ArrayList<>();
        for (Sign s : signs) {
            s.cls = -1;
            for (int c = 0; c < firsts.size() && s.cls == -1; c++) {
                int different = difference(firsts.get(c), s);
                s.cls = different >= 0 && different <= bound ? c : -1;
            }
            if (s.cls == -1) {
                s.cls = firsts.size();
                firsts.add(s);
            }
        }
        return firsts.size();
    }

    int cls(int symbol) {
        return sign(symbol).cls;
    }

    int count(int what) {
        int[] all = {signs.size(), written.length, waiting.size(), kind};
        return what < 0 || what > 3 ? -1 : all[what];
    }

    void clear() {
        signs.clear();
        written = new int[0];
        waiting.clear();
    }
}
