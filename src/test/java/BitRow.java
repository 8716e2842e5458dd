import java.util.ArrayList;
import java.util.List;

/** Bits as the document tells them, and the bytes that they make: worked out apart from the class. */
final class BitRow {
    private static final int NO_CONTEXT = -1;

    private final List<Integer> bits = new ArrayList<>();
    private final List<Integer> contexts = new ArrayList<>();

    BitRow bit(int bit) {
        return inPlane(bit, NO_CONTEXT);
    }

    BitRow inPlane(int bit, int context) {
        bits.add(bit);
        contexts.add(context);
        return this;
    }

    /** Bits as they stand in a text of 0 and 1; all else in it is passed over. */
    BitRow text(String text) {
        for (char c : text.toCharArray()) {
            if (c == '0' || c == '1') {
                bit(c - '0');
            }
        }
        return this;
    }

    BitRow number(int n) {
        String shown = Integer.toBinaryString(n + 1);
        return text("0".repeat(shown.length() - 1) + shown);
    }

    BitRow fourBits(int n) {
        return text(Integer.toBinaryString(16 + n).substring(1));
    }

    /** A plane by its rows, the leftmost sample first, as a kind tells it. */
    BitRow plane(int kind, boolean withBase, String... rows) {
        if (kind == 1) {
            return runs(String.join("", rows));
        }
        for (int y = 0; y < rows.length; y++) {
            for (int x = 0; x < rows[y].length(); x++) {
                int context = (withBase ? 16 : 0) + 8 * sample(rows, x - 1, y) + 4 * sample(rows, x - 1, y - 1)
                    + 2 * sample(rows, x, y - 1) + sample(rows, x + 1, y - 1);
                inPlane(sample(rows, x, y), context);
            }
        }
        return this;
    }

    private static int sample(String[] rows, int x, int y) {
        return y < 0 || x < 0 || x >= rows[y].length() ? 0 : rows[y].charAt(x) - '0';
    }

    private BitRow runs(String samples) {
        char colour = '0';
        int from = 0;
        while (from < samples.length()) {
            int to = from;
            while (to < samples.length() && samples.charAt(to) == colour) {
                to++;
            }
            number(to - from);
            from = to;
            colour = colour == '0' ? '1' : '0';
        }
        return this;
    }

    int[] bytes(int kind) {
        List<Integer> bytes = kind == 2 ? bytesByChances() : plainBytes();
        return bytes.stream().mapToInt(Integer::intValue).toArray();
    }

    private List<Integer> plainBytes() {
        List<Integer> bytes = new ArrayList<>();
        for (int from = 0; from < bits.size(); from += 8) {
            int b = 0;
            for (int i = from; i < from + 8; i++) {
                b = 2 * b + (i < bits.size() ? bits.get(i) : 0);
            }
            bytes.add(b);
        }
        return bytes;
    }

    private List<Integer> bytesByChances() {
        List<Integer> bytes = new ArrayList<>();
        long[] chances = evenChances();
        long low = 0;
        long high = (1L << 32) - 1;
        for (int i = 0; i < bits.size(); i++) {
            long split = low + (high - low) * taken(chances, contexts.get(i)) / 65536;
            if (bits.get(i) == 1) {
                high = split;
            } else {
                low = split + 1;
            }
            learn(chances, contexts.get(i), bits.get(i));
            while (low / (1 << 24) == high / (1 << 24)) {
                bytes.add((int) (low / (1 << 24)));
                low = low % (1 << 24) * 256;
                high = high % (1 << 24) * 256 + 255;
            }
        }
        bytes.add((int) ((low + 65535) / (1 << 24)));
        bytes.add((int) ((low + 65535) / (1 << 16) % 256));
        return bytes;
    }

    static long[] evenChances() {
        long[] chances = new long[32];
        java.util.Arrays.fill(chances, 32768);
        return chances;
    }

    static long taken(long[] chances, int context) {
        if (context == NO_CONTEXT) {
            return 32768;
        }
        return chances[context] < 64 ? 64 : chances[context] > 65472 ? 65472 : chances[context];
    }

    static void learn(long[] chances, int context, int bit) {
        if (context == NO_CONTEXT) {
            return;
        }
        chances[context] += bit == 1 ? (65535 - chances[context]) / 16 : -(chances[context] / 16);
    }
}
