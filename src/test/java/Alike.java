import java.util.function.Supplier;

/** Objects brought into one state by the same calls: a new one is made when the last has had all its calls. */
final class Alike {
    private final Supplier<Counted> made;
    private Counted latest;

    Alike(Supplier<Counted> made) {
        this.made = made;
    }

    /** One that may be asked once more, by a call that changes nothing. */
    Counted one() {
        if (latest == null || latest.callsLeft() == 0) {
            latest = made.get();
        }
        return latest;
    }

    /** The bytes written last. */
    int[] bytes() {
        int[] bytes = new int[one().count(1)];
        for (int i = 0; i < bytes.length; i++) {
            bytes[i] = one().byteAt(i);
        }
        return bytes;
    }

    /** A symbol's samples, row by row. */
    String samples(int symbol) {
        StringBuilder samples = new StringBuilder();
        int width = one().told(symbol, 0);
        int height = one().told(symbol, 1);
        for (int i = 0; i < width * height; i++) {
            samples.append(one().at(symbol, i % width, i / width) ? '1' : '0');
        }
        return samples.toString();
    }

    /** All that is told of the symbols, and their classes. */
    String symbols() {
        StringBuilder all = new StringBuilder();
        int howMany = one().count(0);
        for (int symbol = 0; symbol < howMany; symbol++) {
            all.append('[');
            for (int what = 0; what <= 7; what++) {
                all.append(one().told(symbol, what)).append(' ');
            }
            all.append(one().cls(symbol)).append(' ').append(samples(symbol)).append(']');
        }
        return all.toString();
    }

    /** All that can be asked; what is to be read only by how much it is. */
    String all() {
        StringBuilder all = new StringBuilder();
        for (int what = 0; what <= 3; what++) {
            all.append(one().count(what)).append(' ');
        }
        return all + symbols() + java.util.Arrays.toString(bytes());
    }
}
