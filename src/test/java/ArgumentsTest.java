/** Promises 5 and 6: argument and weight. */
public final class ArgumentsTest {
    private static final double TWO_31 = 2147483648.0;
    private static final double TWO_53 = 9007199254740992.0;

    public static void main(String[] args) {
        fourArgumentsAreAll();
        wrongBitsAreRefused();
        bitsOfNoMatter();
        weightsOfKinds();
        weightsOfNumbers();
        weightsOfObjects();
        wrongWeights();
        Check.end();
    }

    /** Classes 0, 1 of 0, 2 of 1, 3 of 0, and an object of class 2. */
    private static HostBridge family() {
        HostBridge x = new HostBridge();
        x.klass(-1);
        x.klass(0);
        x.klass(1);
        x.klass(0);
        x.object(2);
        return x;
    }

    private static void fourArgumentsAreAll() {
        HostBridge x = family();
        for (int i = 1; i <= 4; i++) {
            Check.due("argument " + i, x.argument(2, i % 2), i);
        }
        Check.dueThrow("argument 5", Check.ILLEGAL_STATE, () -> x.argument(2, 0));
        Check.dueThrow("argument 5, no kind", Check.ILLEGAL_ARGUMENT, () -> x.argument(7, 0));
        Check.dueThrow("argument 5, wrong bits", Check.ILLEGAL_ARGUMENT, () -> x.argument(2, 2));
        Check.due("the last one's weight", x.weight(3, 0), 0);
    }

    private static void wrongBitsAreRefused() {
        HostBridge x = family();
        int[] kinds = {-1, 7, Integer.MIN_VALUE, Integer.MAX_VALUE, 2, 2, 4, 4, 5, 5, 5, 6, 6};
        long[] bits = {0, 0, 0, 0, 2, -1, -1, Long.MIN_VALUE, 1, -1, 1L << 32, -1, Long.MIN_VALUE};
        for (int i = 0; i < kinds.length; i++) {
            int kind = kinds[i];
            long each = bits[i];
            Check.dueThrow("argument(" + kind + ", " + each + ")", Check.ILLEGAL_ARGUMENT,
                    () -> x.argument(kind, each));
        }
        Check.due("after the refusals", x.argument(2, 1), 1);
    }

    private static void bitsOfNoMatter() {
        HostBridge x = family();
        Check.due("undefined", x.argument(0, Long.MIN_VALUE), 1);
        Check.due("null", x.argument(1, -1), 2);
        Check.due("the highest text", x.argument(4, Long.MAX_VALUE), 3);
        Check.due("the highest other object", x.argument(6, Long.MAX_VALUE), 4);
        x.klass(-1);
        Check.dueThrow("call: none", Check.NO_ELEMENT, () -> x.call(0, 0));
        Check.due("any bits are a number", x.argument(3, -1), 1);
        Check.due("a truth", x.argument(2, 1), 2);
        Check.due("another truth", x.argument(2, 0), 3);
        Check.due("a host object", x.argument(5, 0), 4);
    }

    /** Weights for truth, int, long, double, text, value and the types of classes 0 to 3. */
    private static void row(String what, int kind, long bits, int... want) {
        HostBridge x = family();
        x.argument(kind, bits);
        for (int type = 0; type < 10; type++) {
            int due = type < 6 || want.length > 7 ? want[type] : want[6];
            Check.due(what + " for type " + type, x.weight(0, type), due);
        }
    }

    private static void weightsOfKinds() {
        row("undefined", 0, 0, -1, -1, -1, -1, 41, 0, -1);
        row("null", 1, 0, -1, -1, -1, -1, 2, 0, 1);
        row("false", 2, 0, 0, -1, -1, -1, 3, 2, -1);
        row("true", 2, 1, 0, -1, -1, -1, 3, 2, -1);
        row("text", 4, 0, -1, -1, -1, -1, 0, 2, -1);
        row("other object", 6, 0, -1, -1, -1, -1, 40, 0, -1);
    }

    private static void weightsOfNumbers() {
        double[] ints = {0, 1, -1, 7, 1 << 30, TWO_31 - 1, -TWO_31, 65537, -12345678};
        for (double each : ints) {
            row("int " + each, 3, Check.bits(each), 6, 0, 1, 2, 5, 4, -1);
        }
        double[] longs = {-0.0, TWO_31, -TWO_31 - 1, TWO_53, -TWO_53, TWO_53 - 1, 1 - TWO_53, TWO_53 / 2 + 1};
        for (double each : longs) {
            row("long " + each, 3, Check.bits(each), 6, -1, 0, 1, 5, 4, -1);
        }
        double[] others = {0.5, -0.5, 1.5, TWO_31 - 0.5, TWO_53 + 2, -TWO_53 - 2, TWO_53 * 2, TWO_53 / 4 + 0.5,
            TWO_53 / 4 - 0.25, 1e300, Double.MIN_VALUE, -Double.MIN_VALUE, Double.MIN_NORMAL, Double.MAX_VALUE,
            Double.NaN, Double.POSITIVE_INFINITY, Double.NEGATIVE_INFINITY, Math.nextDown(1.0)};
        for (double each : others) {
            row("other " + each, 3, Check.bits(each), 6, -1, -1, 0, 5, 4, -1);
        }
        row("a NaN of all ones", 3, -1, 6, -1, -1, 0, 5, 4, -1);
    }

    private static void weightsOfObjects() {
        row("host object", 5, 0, -1, -1, -1, -1, 40, 20, 2, 1, 0, -1);
    }

    private static void wrongWeights() {
        HostBridge x = family();
        Check.dueThrow("no argument", Check.ILLEGAL_ARGUMENT, () -> x.weight(0, 0));
        x.argument(2, 1);
        Check.dueThrow("argument 1", Check.ILLEGAL_ARGUMENT, () -> x.weight(1, 0));
        Check.dueThrow("argument -1", Check.ILLEGAL_ARGUMENT, () -> x.weight(-1, 0));
        Check.dueThrow("argument 4", Check.ILLEGAL_ARGUMENT, () -> x.weight(4, 0));
        Check.dueThrow("type -1", Check.ILLEGAL_ARGUMENT, () -> x.weight(0, -1));
        Check.dueThrow("type 10", Check.ILLEGAL_ARGUMENT, () -> x.weight(0, 10));
        Check.dueThrow("the highest type", Check.ILLEGAL_ARGUMENT, () -> x.weight(0, Integer.MAX_VALUE));
        x.argument(4, 1);
        Check.due("argument 0 of two", x.weight(0, 5), 2);
        Check.due("argument 1 of two", x.weight(1, 4), 0);
        Check.due("a weight leaves the arguments", x.argument(0, 0), 3);
    }
}
