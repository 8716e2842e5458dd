import java.util.ArrayList;
import java.util.List;

/** Bits as the document tells them, and the bytes that they make: worked out apart from the class. */
final class BitRow {
    private final List<Integer> bits = new ArrayList<>();
    private final List<Integer> contexts = new ArrayList<>();

    BitRow bit(int bit) {
        return inPlane(bit, Interval.NO_CONTEXT);
    }

    BitRow inPlane(int bit, int context) {
        bits.add(bit);
        contexts.add(context);
        return this;
    }

    /** Bits as they stand in a text of 0 and 1; all else in it is passed over. */
    BitRow text(String text) {
        for (char c : text.toCharArray()) {
            if (c == '0' || c == '1') {
                bit(c - '0');
            }
        }
        return this;
    }

    BitRow number(int n) {
        String shown = Integer.toBinaryString(n + 1);
        return text("0".repeat(shown.length() - 1) + shown);
    }

    BitRow numbers(int... numbers) {
        for (int n : numbers) {
            number(n);
        }
        return this;
    }

    BitRow fourBits(int n) {
        return text(Integer.toBinaryString(16 + n).substring(1));
    }

    /** A symbol without a base: how much wider it is, and its rows. */
    BitRow symbol(int kind, int wider, String... rows) {
        return bit(1).number(wider).bit(0).plane(kind, false, rows);
    }

    /** A symbol with a base: how much wider it is, how many are between, the shift, and its plane. */
    BitRow refined(int kind, int wider, int between, int dx, int dy, String... plane) {
        return bit(1).number(wider).bit(1).number(between).fourBits(dx + 4).fourBits(dy + 4).plane(kind, true, plane);
    }

    /** A plane by its rows, the leftmost sample first, as a kind tells it. */
    BitRow plane(int kind, boolean withBase, String... rows) {
        if (kind == 1) {
            return runs(String.join("", rows));
        }
        for (int y = 0; y < rows.length; y++) {
            for (int x = 0; x < rows[y].length(); x++) {
                inPlane(rows[y].charAt(x) - '0', context(withBase, rows, x, y));
            }
        }
        return this;
    }

    /** The context of a place; only what is told before it is looked at. */
    static int context(boolean withBase, String[] rows, int x, int y) {
        return (withBase ? 16 : 0) + 8 * sample(rows, x - 1, y) + 4 * sample(rows, x - 1, y - 1)
            + 2 * sample(rows, x, y - 1) + sample(rows, x + 1, y - 1);
    }

    private static int sample(String[] rows, int x, int y) {
        return y < 0 || x < 0 || x >= rows[y].length() ? 0 : rows[y].charAt(x) - '0';
    }

    private BitRow runs(String samples) {
        char colour = '0';
        int from = 0;
        while (from < samples.length()) {
            int to = from;
            while (to < samples.length() && samples.charAt(to) == colour) {
                to++;
            }
            number(to - from);
            from = to;
            colour = colour == '0' ? '1' : '0';
        }
        return this;
    }

    int size() {
        return bits.size();
    }

    Interval interval() {
        Interval interval = new Interval();
        for (int i = 0; i < bits.size(); i++) {
            interval.put(bits.get(i), contexts.get(i));
        }
        return interval;
    }

    int[] bytes(int kind) {
        List<Integer> bytes = kind == 2 ? bytesByChances() : plainBytes();
        return bytes.stream().mapToInt(Integer::intValue).toArray();
    }

    private List<Integer> plainBytes() {
        List<Integer> bytes = new ArrayList<>();
        for (int from = 0; from < bits.size(); from += 8) {
            int b = 0;
            for (int i = from; i < from + 8; i++) {
                b = 2 * b + (i < bits.size() ? bits.get(i) : 0);
            }
            bytes.add(b);
        }
        return bytes;
    }

    private List<Integer> bytesByChances() {
        Interval interval = interval();
        List<Integer> bytes = new ArrayList<>(interval.bytes);
        for (int b : interval.end()) {
            bytes.add(b);
        }
        return bytes;
    }
}
