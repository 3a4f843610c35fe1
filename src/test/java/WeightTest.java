/** Promise 6: weight. */
public final class WeightTest {
    public static void main(String[] args) {
        Check.sentence("The weight of argument i for a type", WeightTest::ofEachArgument);
        Check.sentence("-1 when it does not fit", WeightTest::doesNotFit);
        Check.sentence("IllegalArgumentException: there is no such argument", WeightTest::noSuchArgument);
        Check.sentence("IllegalArgumentException: there is no such .. type", WeightTest::noSuchType);
        Check.sentence("weight: the arguments stay", WeightTest::argumentsStay);
        Check.end();
    }

    private static void ofEachArgument() {
        HostBridge x = Bridges.family();
        x.argument(Bridges.TRUTH, 1);
        Bridges.numbers(x, 0.5);
        x.argument(Bridges.HOST, 2);
        x.argument(Bridges.NULL, 0);
        int[][] due = {{0, -1, -1, -1, 3, 2, -1}, {6, -1, -1, 0, 5, 4, -1}, {-1, -1, -1, -1, 40, 20, 2},
            {-1, -1, -1, -1, 2, 0, 1}};
        for (int i = 0; i < 4; i++) {
            for (int type = 0; type < 7; type++) {
                Check.due("weight(" + i + ", " + type + ")", x.weight(i, type), due[i][type]);
            }
        }
    }

    private static void doesNotFit() {
        HostBridge x = Bridges.family();
        x.argument(Bridges.UNDEFINED, 0);
        x.argument(Bridges.TEXT, 0);
        x.argument(Bridges.HOST, 0);
        Bridges.numbers(x, -0.0);
        Check.due("undefined for truth", x.weight(0, 0), -1);
        Check.due("text for an object", x.weight(1, 10), -1);
        Check.due("an object for a child's type", x.weight(2, 7), -1);
        Check.due("an object of class 0 for long", x.weight(2, 2), -1);
        Check.due("-0 for int", x.weight(3, 1), -1);
    }

    private static void noSuchArgument() {
        HostBridge x = Bridges.family();
        for (int many = 0; many <= 4; many++) {
            int next = many;
            for (int i : new int[] {-1, next, 4, 5}) {
                Check.dueThrow("argument " + i + " of " + many, Check.ILLEGAL_ARGUMENT, () -> x.weight(i, 0));
            }
            for (int i : Check.FAR_OFF) {
                Check.dueThrow("argument " + i, Check.ILLEGAL_ARGUMENT, () -> x.weight(i, 0));
            }
            if (many < 4) {
                x.argument(Bridges.TRUTH, 1);
                Check.due("the last of " + (many + 1), x.weight(many, 0), 0);
            }
        }
        Check.dueThrow("a call that takes them", Check.NO_ELEMENT, () -> x.call(0, 0));
        Check.dueThrow("argument 0 after it", Check.ILLEGAL_ARGUMENT, () -> x.weight(0, 0));
    }

    private static void noSuchType() {
        HostBridge x = Bridges.family();
        x.argument(Bridges.NULL, 0);
        x.argument(Bridges.HOST, 0);
        for (int i = 0; i < 2; i++) {
            int each = i;
            for (int type : new int[] {-1, 11, 21, 22, 255, 256}) {
                Check.dueThrow("type " + type, Check.ILLEGAL_ARGUMENT, () -> x.weight(each, type));
            }
            for (int type : Check.FAR_OFF) {
                Check.dueThrow("type " + type, Check.ILLEGAL_ARGUMENT, () -> x.weight(each, type));
            }
        }
        Check.due("the last type", x.weight(0, 10), 1);
        x.klass(-1);
        Check.due("type 11 when it is there", x.weight(0, 11), 1);
    }

    private static void argumentsStay() {
        HostBridge x = Bridges.oneObject();
        x.method(0, 1, 1, 0, 0);
        x.argument(Bridges.TRUTH, 1);
        x.weight(0, 0);
        Check.dueThrow("a weight that is refused", Check.ILLEGAL_ARGUMENT, () -> x.weight(0, 7));
        Check.due("the same once more", x.weight(0, 0), 0);
        Check.due("a call with it", x.call(0, 1), 0);
    }
}
