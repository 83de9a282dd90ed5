/** What the tests share: each answer that is not due is printed, and ends the test with exit code 1. */
final class Check {
    /** A call whose answer does not matter. */
    interface Call {
        void make();
    }

    static final Class<? extends RuntimeException> OUT = IndexOutOfBoundsException.class;
    static final Class<? extends RuntimeException> ARGUMENT = IllegalArgumentException.class;
    static final Class<? extends RuntimeException> STATE = IllegalStateException.class;
    static final Class<? extends RuntimeException> MISSING = java.util.NoSuchElementException.class;
    static final Class<? extends RuntimeException> ARITHMETIC = ArithmeticException.class;

    private static int wrong = 0;

    private Check() {
    }

    static void due(String what, long got, long want) {
        if (got != want) {
            fail(what, String.valueOf(got), String.valueOf(want));
        }
    }

    static void due(String what, double got, double want) {
        if (got != want) {
            fail(what, String.valueOf(got), String.valueOf(want));
        }
    }

    static void due(String what, char got, char want) {
        if (got != want) {
            fail(what, String.valueOf(got), String.valueOf(want));
        }
    }

    static void due(String what, boolean got, boolean want) {
        if (got != want) {
            fail(what, String.valueOf(got), String.valueOf(want));
        }
    }

    static void due(String what, String got, String want) {
        if (!got.equals(want)) {
            fail(what, got, want);
        }
    }

    /** The class must be the very one that is due, not one below it, which the machine might throw. */
    static void thrown(String what, Class<? extends RuntimeException> want, Call call) {
        String got = "nothing";
        try {
            call.make();
        } catch (RuntimeException e) {
            got = e.getClass().getName();
        }
        due(what + " throws", got, want.getName());
    }

    /** The line that writeAgent writes. */
    static String lineOf(BusHandler board, int agent) {
        int length = board.writeAgent(agent);
        StringBuilder text = new StringBuilder();
        for (int i = 0; i < length; i++) {
            text.append(board.lineAt(i));
        }
        return text.toString();
    }

    /** The ring of waiting as a text, with a blank between the numbers. */
    static String ringOf(BusHandler board) {
        StringBuilder text = new StringBuilder();
        int length = board.ringLength();
        for (int i = 0; i < length; i++) {
            text.append(i == 0 ? "" : " ").append(board.ringAt(i));
        }
        return text.toString();
    }

    static void end() {
        if (wrong != 0) {
            System.out.println(wrong + " answers are not as due");
            System.exit(1);
        }
    }

    private static void fail(String what, String got, String want) {
        wrong++;
        System.out.println(what + " answered " + got + ", due is " + want);
    }
}
