/** Counts and prints the answers that are not the ones that are due. */
final class Check {
    static final Class<? extends Throwable> ILLEGAL_ARGUMENT = IllegalArgumentException.class;
    static final Class<? extends Throwable> ILLEGAL_STATE = IllegalStateException.class;
    static final Class<? extends Throwable> NO_ELEMENT = java.util.NoSuchElementException.class;
    static final Class<? extends Throwable> OUT_OF_BOUNDS = IndexOutOfBoundsException.class;

    /** Numbers that no index, count or type can be, whatever an object holds. */
    static final int[] FAR_OFF = {Integer.MIN_VALUE, -1000, 1000, 65536, Integer.MAX_VALUE};

    private static int wrong = 0;
    private static String words = "";

    private Check() {
    }

    interface Call {
        void run();
    }

    /** A test of its own for a sentence of the document, which its words tell. */
    static void sentence(String sentence, Call test) {
        words = "\"" + sentence + "\": ";
        try {
            test.run();
        } catch (RuntimeException e) {
            complain("a call that has an answer threw " + e);
        }
        words = "";
    }

    static void due(String what, long got, long want) {
        if (got != want) {
            complain(what + " answered " + got + ", due is " + want);
        }
    }

    /** The exception must be of just this class, not of one below it. */
    static void dueThrow(String what, Class<? extends Throwable> want, Call call) {
        Throwable got = null;
        try {
            call.run();
        } catch (RuntimeException e) {
            got = e;
        }
        if (got == null || got.getClass() != want) {
            complain(what + " threw " + got + ", due is " + want.getName());
        }
    }

    static void complain(String text) {
        wrong++;
        System.out.println(words + text);
    }

    static void end() {
        if (wrong != 0) {
            System.out.println(wrong + " answers are not as due");
            System.exit(1);
        }
    }

    static long bits(double number) {
        return Double.doubleToRawLongBits(number);
    }

    /** The types of parameters, a byte each, the last one's lowest. */
    static int types(int... each) {
        int packed = 0;
        for (int type : each) {
            packed = packed << 8 | type;
        }
        return packed;
    }
}
