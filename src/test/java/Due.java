/** What the tests share: they say what is due of a call, and end with 1 if one answered otherwise. */
final class Due {
    /** A call; it may throw. */
    interface Call {
        long answer();
    }

    private static final String[] MAY_BE_THROWN = {
        "IndexOutOfBoundsException", "IllegalArgumentException", "IllegalStateException", "UnsupportedOperationException"
    };

    private static int wrong = 0;
    private static int asked = 0;

    private Due() {
    }

    static long of(boolean answer) {
        return answer ? 1 : 0;
    }

    /** An answer as text: a number, or the name of what the call throws. */
    static String told(Call call) {
        try {
            return Long.toString(call.answer());
        } catch (RuntimeException e) {
            // The machine's own exceptions are classes below these, so the exact class tells them apart.
            return e.getClass().getSimpleName();
        }
    }

    static void same(String what, String got, String due) {
        asked++;
        if (!got.equals(due)) {
            wrong++;
            System.out.println(what + " answered " + got + ", due is " + due);
        }
    }

    static void is(String what, long due, Call call) {
        same(what, told(call), Long.toString(due));
    }

    static void index(String what, Call call) {
        same(what, told(call), MAY_BE_THROWN[0]);
    }

    static void argument(String what, Call call) {
        same(what, told(call), MAY_BE_THROWN[1]);
    }

    static void state(String what, Call call) {
        same(what, told(call), MAY_BE_THROWN[2]);
    }

    static void unsupported(String what, Call call) {
        same(what, told(call), MAY_BE_THROWN[3]);
    }

    static int wrong() {
        return wrong;
    }

    static void end() {
        System.out.println(asked + " answers, " + wrong + " wrong");
        if (wrong != 0) {
            System.exit(1);
        }
    }
}
