import java.util.ArrayList;
import java.util.Arrays;
import java.util.List;

/** The interval and the chances of kind 2, worked out apart from the class. */
final class Interval {
    static final int NO_CONTEXT = -1;
    private static final long HIGHEST_BYTE = 1 << 24;

    final List<Integer> bytes = new ArrayList<>();
    private final long[] chances = new long[32];
    private long low = 0;
    private long high = (1L << 32) - 1;

    Interval() {
        Arrays.fill(chances, 32768);
    }

    Interval copy() {
        Interval copy = new Interval();
        copy.bytes.addAll(bytes);
        System.arraycopy(chances, 0, copy.chances, 0, chances.length);
        copy.low = low;
        copy.high = high;
        return copy;
    }

    private long chanceTaken(int context) {
        if (context == NO_CONTEXT) {
            return 32768;
        }
        return chances[context] < 64 ? 64 : chances[context] > 65472 ? 65472 : chances[context];
    }

    long split(int context) {
        return low + (high - low) * chanceTaken(context) / 65536;
    }

    void put(int bit, int context) {
        long split = split(context);
        if (bit == 1) {
            high = split;
        } else {
            low = split + 1;
        }
        if (context != NO_CONTEXT) {
            chances[context] += bit == 1 ? (65535 - chances[context]) / 16 : -(chances[context] / 16);
        }
        while (low / HIGHEST_BYTE == high / HIGHEST_BYTE) {
            bytes.add((int) (low / HIGHEST_BYTE));
            low = low % HIGHEST_BYTE * 256;
            high = high % HIGHEST_BYTE * 256 + 255;
        }
    }

    /** The two bytes at the end, of LOW + 65535. */
    int[] end() {
        return new int[] {(int) ((low + 65535) / HIGHEST_BYTE), (int) ((low + 65535) / 65536 % 256)};
    }

    long low() {
        return low;
    }

    long high() {
        return high;
    }

    long chance(int context) {
        return chances[context];
    }
}
