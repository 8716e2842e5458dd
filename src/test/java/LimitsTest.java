/** The 512 calls that an object is used for, made of the dearest ones: the last is answered as the first. */
public final class LimitsTest {
    public static void main(String[] args) {
        for (int kind = 0; kind <= 2; kind++) {
            lastCallIsAnswered(kind);
            dearestCalls(kind);
            readAllTheTime(kind);
        }
        Due.end();
    }

    private static void sentence() {
        Due.sentence("What it is", "An object is used for at most 512 calls after it has been made");
    }

    /** Boards of black and white: one in samples, the others white with it as their base. */
    private static Counted boards(int kind, int howMany) {
        Counted d = new Counted(kind);
        d.symbol(16, 16);
        for (int y = 0; y < 16; y++) {
            d.row(0, y, 0x5555);
        }
        for (int i = 1; i < howMany; i++) {
            d.symbol(16, 16);
            d.refined(i, 0, 0, 0);
        }
        return d;
    }

    private static void lastCallIsAnswered(int kind) {
        sentence();
        Counted d = new Counted(kind);
        d.symbol(16, 16);
        boolean black = false;
        while (d.callsLeft() > 1) {
            black = !black;
            boolean b = black;
            Due.is("put", true, () -> d.put(0, 15, 15, b));
        }
        long due = black ? 1 : 0;
        Due.is("call 512", due, () -> d.told(0, 2));
    }

    private static void dearestCalls(int kind) {
        sentence();
        BitRow bits = new BitRow().numbers(40, 15);
        String[] board = new String[16];
        java.util.Arrays.fill(board, "10".repeat(8));
        for (int i = 0; i < 40; i++) {
            if (i == 0) {
                bits.symbol(kind, 16, board);
            } else {
                bits.refined(kind, 0, i - 1, 0, 0, board);
            }
        }
        int due = bits.bit(0).number(40).bytes(kind).length;
        Counted d = boards(kind, 40);
        while (d.callsLeft() > 0) {
            Due.is("write", due, d::write);
        }
    }

    private static void readAllTheTime(int kind) {
        sentence();
        // Forty are more than may be passed by kind 1.
        int howMany = kind == 1 ? 30 : 40;
        Counted d = boards(kind, howMany);
        int bytes = d.write();
        while (d.callsLeft() >= 3) {
            Due.is("pass", bytes, d::pass);
            Due.is("read", howMany, d::read);
            Due.is("write", bytes, d::write);
        }
    }
}
