/** Promises 11, 12 and 13: calls, look and converted. */
public final class DiaryTest {
    public static void main(String[] args) {
        callsAreWrittenDown();
        wrongInputsAreRefused();
        theLatestSixtyFourAreKept();
        valuesAreConverted();
        numbersAreConverted();
        Check.end();
    }

    /** Class 1 of class 0, an object of each; name n has one parameter of type n. */
    private static HostBridge aNameForEachType() {
        HostBridge x = new HostBridge();
        x.klass(-1);
        x.klass(0);
        x.object(0);
        x.object(1);
        for (int type = 0; type < 8; type++) {
            x.method(0, type, 1, type, 0);
        }
        return x;
    }

    private static void callsAreWrittenDown() {
        HostBridge x = aNameForEachType();
        x.method(1, 9, 4, Check.types(1, 2, 4, 6), 0);
        x.argument(3, Check.bits(-3));
        x.call(1, 1);
        Check.dueThrow("one that throws", Check.NO_ELEMENT, () -> x.call(0, 1));
        x.argument(3, Check.bits(4));
        x.argument(3, Check.bits(5));
        x.argument(4, 77);
        x.argument(5, 1);
        x.exact(1, 9, Check.types(1, 2, 4, 6));
        Check.due("calls", x.calls(), 2);
        Check.due("0: the object", x.look(0, 0), 1);
        Check.due("0: the method", x.look(0, 1), 1);
        Check.due("0: how many", x.look(0, 2), 1);
        Check.due("0: converted", x.converted(0, 0), -3);
        Check.due("1: the object", x.look(1, 0), 1);
        Check.due("1: the method", x.look(1, 1), 8);
        Check.due("1: how many", x.look(1, 2), 4);
        long[] due = {4, 5, 4, 1};
        for (int i = 0; i < 4; i++) {
            Check.due("1: converted " + i, x.converted(1, i), due[i]);
        }
    }

    private static void wrongInputsAreRefused() {
        HostBridge x = aNameForEachType();
        x.argument(2, 1);
        x.call(0, 0);
        Check.dueThrow("what -1", Check.ILLEGAL_ARGUMENT, () -> x.look(0, -1));
        Check.dueThrow("what 3", Check.ILLEGAL_ARGUMENT, () -> x.look(0, 3));
        Check.dueThrow("no what, no call", Check.ILLEGAL_ARGUMENT, () -> x.look(1, 3));
        for (int k : new int[] {-1, 1, 64, Integer.MIN_VALUE, Integer.MAX_VALUE}) {
            Check.dueThrow("look " + k, Check.OUT_OF_BOUNDS, () -> x.look(k, 0));
            Check.dueThrow("converted " + k, Check.OUT_OF_BOUNDS, () -> x.converted(k, 0));
        }
        for (int i : new int[] {-1, 1, 4, Integer.MIN_VALUE, Integer.MAX_VALUE}) {
            Check.dueThrow("argument " + i, Check.OUT_OF_BOUNDS, () -> x.converted(0, i));
        }
    }

    private static void theLatestSixtyFourAreKept() {
        HostBridge x = aNameForEachType();
        for (int k = 0; k < 200; k++) {
            x.argument(3, Check.bits(k));
            x.call(k % 2, 1 + k % 3);
            Check.due("calls", x.calls(), k + 1);
            int oldest = Math.max(0, k - 63);
            Check.due("the oldest one's object", x.look(oldest, 0), oldest % 2);
            Check.due("the oldest one's method", x.look(oldest, 1), 1 + oldest % 3);
            long due = oldest % 3 == 2 ? Check.bits(oldest) : oldest;
            Check.due("the oldest one's argument", x.converted(oldest, 0), due);
            Check.dueThrow("look before it", Check.OUT_OF_BOUNDS, () -> x.look(oldest - 1, 0));
            Check.dueThrow("converted before it", Check.OUT_OF_BOUNDS, () -> x.converted(oldest - 1, 0));
        }
    }

    private static void row(String what, int kind, long bits, int type, long due) {
        HostBridge x = aNameForEachType();
        x.argument(kind, bits);
        x.call(0, type);
        Check.due(what + " for type " + type, x.converted(0, 0), due);
    }

    private static void valuesAreConverted() {
        row("undefined", 0, 5, 4, 0);
        row("undefined", 0, 5, 5, 0);
        row("null", 1, 5, 4, 1);
        row("null", 1, 5, 5, 1);
        row("null", 1, 5, 6, -1);
        row("null", 1, 5, 7, -1);
        row("false", 2, 0, 0, 0);
        row("true", 2, 1, 0, 1);
        row("true", 2, 1, 4, 2);
        row("true", 2, 1, 5, 2);
        row("text", 4, 5, 4, 4);
        row("text", 4, 5, 5, 4);
        row("host object", 5, 1, 4, 5);
        row("host object", 5, 1, 5, 5);
        row("host object", 5, 1, 6, 1);
        row("host object", 5, 1, 7, 1);
        row("other object", 6, 9, 4, 6);
        row("other object", 6, 9, 5, 6);
    }

    private static void numbersAreConverted() {
        double[] longs = {0, -0.0, 1, -1, 3, 4096, 2147483647, -2147483648.0, 2147483648.0, -2147483649.0,
            4503599627370497.0, 9007199254740991.0, -9007199254740991.0, 9007199254740992.0, -9007199254740992.0};
        for (double each : longs) {
            row("the whole number " + each, 3, Check.bits(each), 2, (long) each);
            row("the bits of " + each, 3, Check.bits(each), 3, Check.bits(each));
            row("the truth of " + each, 3, Check.bits(each), 0, each == 0 ? 0 : 1);
            if (each == (int) each && Check.bits(each) != Check.bits(-0.0)) {
                row("the int " + each, 3, Check.bits(each), 1, (long) each);
            }
        }
        double[] others = {0.5, -0.5, Double.MIN_VALUE, -Double.MIN_VALUE, 1e300,
            Double.POSITIVE_INFINITY, Double.NEGATIVE_INFINITY};
        for (double each : others) {
            row("the truth of " + each, 3, Check.bits(each), 0, 1);
            row("the bits of " + each, 3, Check.bits(each), 3, Check.bits(each));
            row("the text of " + each, 3, Check.bits(each), 4, 3);
            row("the value of " + each, 3, Check.bits(each), 5, 3);
        }
        for (long nan : new long[] {Check.bits(Double.NaN), -1, 0x7FF0000000000001L, 0xFFF0000000000001L}) {
            row("the truth of NaN", 3, nan, 0, 0);
            row("the bits of NaN", 3, nan, 3, nan);
        }
    }
}
