import java.util.function.BooleanSupplier;
import java.util.function.LongSupplier;

/** What the tests share: they say what is due of a call, and end with 1 if one answered otherwise. */
final class Due {
    private static String sentence = "";
    private static int wrong = 0;
    private static int asked = 0;

    private Due() {
    }

    /** The sentence, or part of one, that is held to from here on; SentencesTest looks it up in the document. */
    static void sentence(String where, String quoted) {
        sentence = where + ", \"" + quoted + "\": ";
    }

    static long of(boolean answer) {
        return answer ? 1 : 0;
    }

    /** An answer as text: a number, or the name of what the call throws. */
    static String told(LongSupplier call) {
        try {
            return Long.toString(call.getAsLong());
        } catch (RuntimeException e) {
            // The machine's own exceptions are classes below the document's, so the exact class tells them apart.
            return e.getClass().getSimpleName();
        }
    }

    static void same(String what, String got, String due) {
        asked++;
        if (!got.equals(due)) {
            wrong++;
            System.out.println(sentence + what + " answered " + got + ", due is " + due);
        }
    }

    static void is(String what, long due, LongSupplier call) {
        same(what, told(call), Long.toString(due));
    }

    static void is(String what, boolean due, BooleanSupplier call) {
        same(what, told(() -> of(call.getAsBoolean())), Long.toString(of(due)));
    }

    static void index(String what, LongSupplier call) {
        same(what, told(call), "IndexOutOfBoundsException");
    }

    static void argument(String what, LongSupplier call) {
        same(what, told(call), "IllegalArgumentException");
    }

    static void state(String what, LongSupplier call) {
        same(what, told(call), "IllegalStateException");
    }

    static void unsupported(String what, LongSupplier call) {
        same(what, told(call), "UnsupportedOperationException");
    }

    static int wrong() {
        return wrong;
    }

    static void end() {
        System.out.println(asked + " answers, " + wrong + " wrong");
        if (wrong != 0) {
            System.exit(1);
        }
    }
}
