/** Promise 12: look. */
public final class LookTest {
    public static void main(String[] args) {
        Check.sentence("what 0 the object, 1 the method, 2 how many arguments", LookTest::whats);
        Check.sentence("Of call k (0 the first one ever)", LookTest::firstEver);
        Check.sentence("the latest 64 are kept", LookTest::sixtyFourKept);
        Check.sentence("IllegalArgumentException: there is no such what", LookTest::noSuchWhat);
        Check.sentence("IndexOutOfBoundsException: there is no such call", LookTest::noSuchCall);
        Check.sentence("IndexOutOfBoundsException: .. or it is not kept", LookTest::notKept);
        Check.end();
    }

    /** Calls that each differ from the next: call k is of object k % 3, method and arguments k % 5. */
    private static HostBridge made(int many) {
        HostBridge x = Bridges.oneObject();
        x.object(0);
        x.object(0);
        for (int m = 0; m < 5; m++) {
            x.method(0, 0, m, 0, 0);
        }
        for (int k = 0; k < many; k++) {
            for (int i = 0; i < k % 5; i++) {
                x.argument(Bridges.TRUTH, 1);
            }
            x.call(k % 3, 0);
        }
        return x;
    }

    private static void isCall(HostBridge x, int k) {
        Check.due("the object of call " + k, x.look(k, 0), k % 3);
        Check.due("the method of call " + k, x.look(k, 1), k % 5);
        Check.due("the arguments of call " + k, x.look(k, 2), k % 5);
    }

    private static void whats() {
        HostBridge x = Bridges.family();
        x.method(0, 0, 0, 0, 0);
        x.method(4, 0, 0, 0, 0);
        x.method(1, 0, 4, Check.types(5, 5, 5, 5), 0);
        Bridges.nulls(x, 4);
        x.call(2, 0);
        x.exact(4, 0, 0);
        int[][] due = {{2, 2, 4}, {4, 1, 0}};
        for (int k = 0; k < 2; k++) {
            for (int what = 0; what < 3; what++) {
                Check.due("look(" + k + ", " + what + ")", x.look(k, what), due[k][what]);
            }
        }
    }

    private static void firstEver() {
        for (int many : new int[] {1, 2, 63, 64}) {
            HostBridge x = made(many);
            isCall(x, 0);
            isCall(x, many - 1);
        }
        HostBridge more = made(70);
        isCall(more, 6);
        isCall(more, 69);
    }

    private static void sixtyFourKept() {
        HostBridge x = made(64);
        for (int k = 0; k < 64; k++) {
            Check.due("object of " + k, x.look(k, 0), k % 3);
            Check.due("arguments of " + k, x.look(k, 2), k % 5);
        }
        HostBridge y = made(100);
        for (int k = 36; k < 100; k++) {
            Check.due("method of " + k, y.look(k, 1), k % 5);
        }
        HostBridge z = made(130);
        isCall(z, 66);
        isCall(z, 128);
        isCall(z, 129);
    }

    private static void noSuchWhat() {
        HostBridge x = made(2);
        for (int what : new int[] {-1, 3, 4, Integer.MIN_VALUE, Integer.MAX_VALUE}) {
            Check.dueThrow("what " + what, Check.ILLEGAL_ARGUMENT, () -> x.look(0, what));
            Check.dueThrow("what " + what + " of no call", Check.ILLEGAL_ARGUMENT, () -> x.look(2, what));
        }
        Check.dueThrow("what 3 of a new object", Check.ILLEGAL_ARGUMENT, () -> new HostBridge().look(0, 3));
    }

    private static void noSuchCall() {
        for (int many : new int[] {0, 1, 2, 63, 64, 65}) {
            HostBridge x = made(many);
            for (int what = 0; what < 3; what++) {
                int each = what;
                Check.dueThrow("call -1 of " + many, Check.OUT_OF_BOUNDS, () -> x.look(-1, each));
                Check.dueThrow("the next call of " + many, Check.OUT_OF_BOUNDS, () -> x.look(many, each));
                Check.dueThrow("64 further", Check.OUT_OF_BOUNDS, () -> x.look(many + 64, each));
                Check.dueThrow("64 before", Check.OUT_OF_BOUNDS, () -> x.look(-64, each));
            }
            for (int k : new int[] {Integer.MIN_VALUE, Integer.MAX_VALUE}) {
                Check.dueThrow("call " + k, Check.OUT_OF_BOUNDS, () -> x.look(k, 0));
            }
        }
    }

    private static void notKept() {
        HostBridge x = made(65);
        for (int what = 0; what < 3; what++) {
            int each = what;
            Check.dueThrow("call 0 of 65", Check.OUT_OF_BOUNDS, () -> x.look(0, each));
        }
        isCall(x, 1);
        HostBridge y = made(130);
        for (int k = 0; k < 66; k++) {
            int each = k;
            Check.dueThrow("call " + k + " of 130", Check.OUT_OF_BOUNDS, () -> y.look(each, 0));
        }
        isCall(y, 66);
    }
}
