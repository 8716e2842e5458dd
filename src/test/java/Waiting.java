/** Objects with many bytes to be read, by few calls: a dictionary of 999 bytes is passed again and again. */
final class Waiting {
    /** How many bytes the dictionary of these objects is written as. */
    static final int PASSED = 999;

    private static final int[][] SIZES = new int[3][];

    private Waiting() {
    }

    /** An object with so many bytes to be read, the last ones fed, and a dictionary of 999 bytes written last. */
    static Counted with(int kind, int bytes) {
        if (SIZES[kind] == null) {
            SIZES[kind] = sizes(kind);
        }
        Counted d = made(kind, SIZES[kind]);
        d.write();
        int there = 0;
        while (there + PASSED <= bytes) {
            there = d.pass();
        }
        while (there < bytes) {
            there = d.feed(there % 256);
        }
        return d;
    }

    /** How many large symbols, and the width and height of a small one, make just so many bytes. */
    private static int[] sizes(int kind) {
        int large = 1;
        while (large < 39 && made(kind, large + 1, 1, 1).write() <= PASSED) {
            large++;
        }
        for (int width = 1; width <= 16; width++) {
            for (int height = 1; height <= 15; height++) {
                if (made(kind, large, width, height).write() == PASSED) {
                    return new int[] {large, width, height};
                }
            }
        }
        throw new AssertionError("no dictionary of kind " + kind + " is written as 999 bytes");
    }

    private static Counted made(int kind, int... sizes) {
        Counted d = new Counted(kind);
        d.symbol(16, 16);
        fill(d, 0, 16);
        for (int i = 1; i < sizes[0]; i++) {
            d.symbol(16, 16);
            d.refined(i, 0, 0, 0);
        }
        fill(d, d.symbol(sizes[1], sizes[2]), sizes[2]);
        return d;
    }

    /** Rows without any rule in them, which no kind can tell in a short way. */
    private static void fill(Counted d, int symbol, int height) {
        int bits = 1;
        for (int y = 0; y < height; y++) {
            bits = bits * 1103515245 + 12345;
            d.row(symbol, y, bits >>> 8);
        }
    }
}
