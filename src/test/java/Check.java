/** Counts and prints the answers that are not the ones that are due. */
final class Check {
    static final Class<? extends Throwable> ILLEGAL_ARGUMENT = IllegalArgumentException.class;
    static final Class<? extends Throwable> ILLEGAL_STATE = IllegalStateException.class;
    static final Class<? extends Throwable> NO_ELEMENT = java.util.NoSuchElementException.class;
    static final Class<? extends Throwable> OUT_OF_BOUNDS = IndexOutOfBoundsException.class;

    private static int wrong = 0;

    private Check() {
    }

    interface Call {
        void run();
    }

    static void due(String what, long got, long want) {
        if (got != want) {
            complain(what + " answered " + got + ", due is " + want);
        }
    }

    /** The exception must be of just this class, not of one below it. */
    static void dueThrow(String what, Class<? extends Throwable> want, Call call) {
        Throwable got = null;
        try {
            call.run();
        } catch (RuntimeException e) {
            got = e;
        }
        if (got == null || got.getClass() != want) {
            complain(what + " threw " + got + ", due is " + want.getName());
        }
    }

    static void complain(String text) {
        wrong++;
        System.out.println(text);
    }

    static void end() {
        if (wrong != 0) {
            System.out.println(wrong + " answers are not as due");
            System.exit(1);
        }
    }

    static long bits(double number) {
        return Double.doubleToRawLongBits(number);
    }

    /** The types of parameters, a byte each, the last one's lowest. */
    static int types(int... each) {
        int packed = 0;
        for (int type : each) {
            packed = packed << 8 | type;
        }
        return packed;
    }
}
