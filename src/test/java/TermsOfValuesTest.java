/** The document's "Terms" of values, numbers and weights, sentence by sentence. */
public final class TermsOfValuesTest {
    private static final double TWO_31 = 2147483648.0;
    private static final double TWO_53 = 9007199254740992.0;

    /** Each is the last but one or the last whole number on its side. */
    private static final double[] INTS = {-TWO_31, -TWO_31 + 1, -65536, -2, -1, 0, 1, 2, 3, 65537, 1 << 30,
        TWO_31 - 2, TWO_31 - 1};
    private static final double[] LONGS = {-0.0, TWO_31, TWO_31 + 1, -TWO_31 - 1, -TWO_31 - 2, 2 * TWO_31,
        2 * TWO_31 + 1, -2 * TWO_31, TWO_53 / 2 - 1, TWO_53 / 2, TWO_53 / 2 + 1, TWO_53 - 1, 1 - TWO_53,
        TWO_53, -TWO_53};
    private static final double[] OTHERS = {0.5, -0.5, 1.5, Math.nextDown(1.0), Math.nextUp(1.0), TWO_31 - 0.5,
        -TWO_31 - 0.5, Math.nextUp(TWO_31), TWO_53 / 2 - 0.5, 0.5 - TWO_53 / 2, TWO_53 / 4 + 0.5, TWO_53 + 2,
        -TWO_53 - 2, TWO_53 * 2, -TWO_53 * 2, TWO_53 * 1024, TWO_53 * 2048, TWO_53 * 4096, 1e300, Double.MIN_VALUE,
        -Double.MIN_VALUE, Double.MIN_NORMAL, Double.MAX_VALUE, Double.NaN, Double.POSITIVE_INFINITY,
        Double.NEGATIVE_INFINITY};

    public static void main(String[] args) {
        Check.sentence("A script's VALUE is of a KIND: 0 .. 6", TermsOfValuesTest::kinds);
        Check.sentence("2 truth (0 or 1)", TermsOfValuesTest::truths);
        Check.sentence("3 number (the 64 bits of an IEEE double)", TermsOfValuesTest::numbers);
        Check.sentence("4 text (its number, 0 or above)", () -> zeroOrAbove(Bridges.TEXT));
        Check.sentence("5 a host object (its number)", TermsOfValuesTest::hostObjects);
        Check.sentence("6 another object (its number, 0 or above)", () -> zeroOrAbove(Bridges.OTHER));
        Check.sentence("an INT when it is a whole number from -2^31 to 2^31 - 1", TermsOfValuesTest::ints);
        Check.sentence("but not -0", TermsOfValuesTest::minusZeroIsNoInt);
        Check.sentence("it is LONG when it is a whole one from -2^53 to 2^53", TermsOfValuesTest::longs);
        Check.sentence("(-0, too)", TermsOfValuesTest::minusZeroIsLong);
        Check.sentence("undefined: text 41, value 0, others -",
                () -> row(Bridges.UNDEFINED, 0, -1, -1, -1, -1, 41, 0, -1));
        Check.sentence("Null: text 2, value 0, an object 1, others -",
                () -> row(Bridges.NULL, 0, -1, -1, -1, -1, 2, 0, 1));
        Check.sentence("Truth: truth 0, text 3, value 2, others -", TermsOfValuesTest::weightsOfTruths);
        Check.sentence("An INT: int 0, long 1, double 2, text 5, value 4, truth 6, others -",
                () -> rows(INTS, 6, 0, 1, 2, 5, 4, -1));
        Check.sentence("A LONG that is no INT: long 0, double 1, text 5, value 4, truth 6, others -",
                () -> rows(LONGS, 6, -1, 0, 1, 5, 4, -1));
        Check.sentence("Another number: double 0, text 5, value 4, truth 6, others -",
                TermsOfValuesTest::weightsOfOtherNumbers);
        Check.sentence("Text: text 0, value 2, others -",
                () -> row(Bridges.TEXT, 0, -1, -1, -1, -1, 0, 2, -1));
        Check.sentence("Host object: an object of class c as many as c comes behind its class in its line",
                TermsOfValuesTest::weightsInLines);
        Check.sentence("(or - when c is not in it)", TermsOfValuesTest::weightsOutsideLines);
        Check.sentence("Host object: .. text 40, value 20, others -", TermsOfValuesTest::otherWeightsOfHostObjects);
        Check.sentence("Another object: text 40, value 0, others -",
                () -> row(Bridges.OTHER, 0, -1, -1, -1, -1, 40, 0, -1));
        Check.end();
    }

    private static void taken(int kind, long... bits) {
        for (long each : bits) {
            Check.due("argument(" + kind + ", " + each + ")", Bridges.family().argument(kind, each), 1);
        }
    }

    private static void refused(int kind, long... bits) {
        HostBridge x = Bridges.family();
        for (long each : bits) {
            Check.dueThrow("argument(" + kind + ", " + each + ")", Check.ILLEGAL_ARGUMENT,
                    () -> x.argument(kind, each));
        }
    }

    private static void kinds() {
        for (int kind = 0; kind <= 6; kind++) {
            taken(kind, 0);
        }
        for (int kind : new int[] {-1, 7, 256, Integer.MIN_VALUE, Integer.MAX_VALUE}) {
            refused(kind, 0);
        }
    }

    private static void truths() {
        taken(Bridges.TRUTH, 0, 1);
        refused(Bridges.TRUTH, -1, 2, 256, 1L << 32, (1L << 32) + 1, Long.MIN_VALUE, Long.MAX_VALUE);
    }

    private static void numbers() {
        taken(Bridges.NUMBER, 0, 1, -1, Long.MIN_VALUE, Long.MAX_VALUE, Check.bits(Double.NaN), 0xFFF0000000000001L);
    }

    private static void zeroOrAbove(int kind) {
        taken(kind, 0, 1, 64, 1L << 31, 1L << 32, Long.MAX_VALUE);
        refused(kind, -1, Integer.MIN_VALUE, Long.MIN_VALUE, -1L << 32);
    }

    private static void hostObjects() {
        taken(Bridges.HOST, 0, 4);
        refused(Bridges.HOST, -1, 5, 1L << 32, (1L << 32) + 4, Long.MIN_VALUE, Long.MAX_VALUE);
        HostBridge x = new HostBridge();
        x.klass(-1);
        Check.dueThrow("object 0 too early", Check.ILLEGAL_ARGUMENT, () -> x.argument(Bridges.HOST, 0));
        x.object(0);
        Check.due("object 0", x.argument(Bridges.HOST, 0), 1);
        Check.dueThrow("object 1 too early", Check.ILLEGAL_ARGUMENT, () -> x.argument(Bridges.HOST, 1));
        x.object(0);
        Check.due("object 1", x.argument(Bridges.HOST, 1), 2);
    }

    private static int weightOf(double number, int type) {
        HostBridge x = new HostBridge();
        Bridges.numbers(x, number);
        return x.weight(0, type);
    }

    private static void ints() {
        for (double each : INTS) {
            Check.due(each + " for int", weightOf(each, 1), 0);
        }
        for (double each : LONGS) {
            Check.due(each + " for int", weightOf(each, 1), -1);
        }
        for (double each : OTHERS) {
            Check.due(each + " for int", weightOf(each, 1), -1);
        }
    }

    private static void minusZeroIsNoInt() {
        Check.due("-0 for int", weightOf(-0.0, 1), -1);
        Check.due("0 for int", weightOf(0.0, 1), 0);
    }

    private static void longs() {
        Check.due("2^53", weightOf(TWO_53, 2), 0);
        Check.due("-2^53", weightOf(-TWO_53, 2), 0);
        Check.due("2^53 + 2", weightOf(TWO_53 + 2, 2), -1);
        Check.due("-2^53 - 2", weightOf(-TWO_53 - 2, 2), -1);
        double power = 1;
        for (int p = 0; p <= 53; p++) {
            int due = p <= 30 ? 1 : 0;
            Check.due("2^" + p, weightOf(power, 2), due);
            Check.due("-2^" + p, weightOf(-power, 2), p <= 31 ? 1 : 0);
            Check.due("next above 2^" + p, weightOf(Math.nextUp(power), 2), p == 52 ? 0 : -1);
            Check.due("next below 2^" + p, weightOf(Math.nextDown(power), 2), p == 53 ? 0 : -1);
            Check.due("next below -2^" + p, weightOf(Math.nextDown(-power), 2), p == 52 ? 0 : -1);
            Check.due("next above -2^" + p, weightOf(Math.nextUp(-power), 2), p == 53 ? 0 : -1);
            power *= 2;
        }
        for (double each : OTHERS) {
            Check.due(each + " for long", weightOf(each, 2), -1);
        }
    }

    private static void minusZeroIsLong() {
        Check.due("-0 for long", weightOf(-0.0, 2), 0);
        Check.due("-0 for double", weightOf(-0.0, 3), 1);
    }

    /** Weights for truth, int, long, double, text, value and any class's object. */
    private static void row(int kind, long bits, int... want) {
        HostBridge x = Bridges.family();
        x.argument(kind, bits);
        for (int type = 0; type < 11; type++) {
            Check.due("kind " + kind + ", bits " + bits + " for type " + type, x.weight(0, type),
                    want[Math.min(type, 6)]);
        }
    }

    private static void rows(double[] numbers, int... want) {
        for (double each : numbers) {
            row(Bridges.NUMBER, Check.bits(each), want);
        }
    }

    private static void weightsOfTruths() {
        row(Bridges.TRUTH, 0, 0, -1, -1, -1, 3, 2, -1);
        row(Bridges.TRUTH, 1, 0, -1, -1, -1, 3, 2, -1);
    }

    private static void weightsOfOtherNumbers() {
        rows(OTHERS, 6, -1, -1, 0, 5, 4, -1);
        for (long nan : new long[] {-1, 0x7FF0000000000001L, 0xFFF0000000000001L}) {
            row(Bridges.NUMBER, nan, 6, -1, -1, 0, 5, 4, -1);
        }
    }

    private static void weightsInLines() {
        for (int length = 1; length <= 16; length++) {
            HostBridge x = Bridges.line(length);
            x.argument(Bridges.HOST, x.object(length - 1));
            Check.due("its own class", x.weight(0, 6 + length - 1), 0);
            Check.due("the last one of " + length, x.weight(0, 6), length - 1);
        }
        HostBridge x = Bridges.family();
        x.argument(Bridges.HOST, 3);
        Check.due("a parent whose number is not the next one's", x.weight(0, 6), 1);
    }

    private static void weightsOutsideLines() {
        HostBridge x = Bridges.family();
        x.argument(Bridges.HOST, 0);
        x.argument(Bridges.HOST, 3);
        x.argument(Bridges.HOST, 4);
        Check.due("a child", x.weight(0, 7), -1);
        Check.due("a child's child", x.weight(0, 8), -1);
        Check.due("a sister", x.weight(1, 7), -1);
        Check.due("a sister's child", x.weight(1, 8), -1);
        Check.due("a class apart", x.weight(2, 6), -1);
    }

    private static void otherWeightsOfHostObjects() {
        int[] due = {-1, -1, -1, -1, 40, 20};
        for (int object = 0; object < 5; object++) {
            HostBridge x = Bridges.family();
            x.argument(Bridges.HOST, object);
            for (int type = 0; type < 6; type++) {
                Check.due("object " + object + " for type " + type, x.weight(0, type), due[type]);
            }
        }
    }
}
