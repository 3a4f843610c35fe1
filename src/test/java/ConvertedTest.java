/** Promise 13: converted. */
public final class ConvertedTest {
    public static void main(String[] args) {
        Check.sentence("Argument i of call k, converted", ConvertedTest::argumentsOfCalls);
        Check.sentence("IndexOutOfBoundsException: there is none: no such argument", ConvertedTest::noSuchArgument);
        Check.sentence("IndexOutOfBoundsException: there is none: no such call", ConvertedTest::noSuchCall);
        Check.sentence("IndexOutOfBoundsException: .. or it is not kept", ConvertedTest::notKept);
        Check.sentence("converted: a row that is used again", ConvertedTest::usedAgain);
        Check.end();
    }

    /** Method m has m parameters, all long. */
    private static HostBridge longs() {
        HostBridge x = Bridges.oneObject();
        int types = 0;
        for (int m = 0; m < 5; m++) {
            x.method(0, 0, m, types, 0);
            types = types << 8 | 2;
        }
        return x;
    }

    private static void callWith(HostBridge x, int many, int first) {
        for (int i = 0; i < many; i++) {
            Bridges.numbers(x, first + i);
        }
        x.call(0, 0);
    }

    private static void argumentsOfCalls() {
        HostBridge x = longs();
        for (int many = 0; many <= 4; many++) {
            callWith(x, many, 10 * many);
        }
        for (int many = 0; many <= 4; many++) {
            for (int i = 0; i < many; i++) {
                Check.due("converted(" + many + ", " + i + ")", x.converted(many, i), 10 * many + i);
            }
        }
        Bridges.numbers(x, 77);
        Check.due("the next call's arguments are no matter", x.converted(4, 0), 40);
    }

    private static void noSuchArgument() {
        HostBridge x = longs();
        for (int many = 0; many <= 4; many++) {
            callWith(x, many, 5);
            int call = many;
            for (int i : new int[] {-1, many, many + 1, 4, Integer.MIN_VALUE, Integer.MAX_VALUE}) {
                Check.dueThrow("argument " + i + " of " + many, Check.OUT_OF_BOUNDS, () -> x.converted(call, i));
            }
        }
    }

    private static void noSuchCall() {
        HostBridge x = longs();
        Check.dueThrow("none made yet", Check.OUT_OF_BOUNDS, () -> x.converted(0, 0));
        callWith(x, 1, 5);
        for (int k : new int[] {-64, -1, 1, 63, 64, Integer.MIN_VALUE, Integer.MAX_VALUE}) {
            Check.dueThrow("call " + k, Check.OUT_OF_BOUNDS, () -> x.converted(k, 0));
        }
        Check.due("call 0", x.converted(0, 0), 5);
    }

    private static void notKept() {
        HostBridge x = longs();
        for (int k = 0; k < 64; k++) {
            callWith(x, 1, k);
        }
        Check.due("call 0 of 64", x.converted(0, 0), 0);
        callWith(x, 1, 64);
        Check.dueThrow("call 0 of 65", Check.OUT_OF_BOUNDS, () -> x.converted(0, 0));
        Check.due("call 1 of 65", x.converted(1, 0), 1);
        for (int k = 65; k < 140; k++) {
            callWith(x, 1, k);
        }
        Check.dueThrow("call 75 of 140", Check.OUT_OF_BOUNDS, () -> x.converted(75, 0));
        for (int k = 76; k < 140; k++) {
            Check.due("call " + k + " of 140", x.converted(k, 0), k);
        }
    }

    private static void usedAgain() {
        HostBridge x = longs();
        for (int k = 0; k < 64; k++) {
            callWith(x, 4, k);
        }
        callWith(x, 1, 99);
        Check.due("the new one's argument", x.converted(64, 0), 99);
        for (int i = 1; i < 4; i++) {
            int each = i;
            Check.dueThrow("the old one's argument " + i, Check.OUT_OF_BOUNDS, () -> x.converted(64, each));
        }
        Check.due("its neighbour's last argument", x.converted(1, 3), 4);
        Check.due("the latest old one's", x.converted(63, 0), 63);
    }
}
