/** Promise 7: call. */
public final class CallTest {
    public static void main(String[] args) {
        theLowestWeightsWin();
        aMixIsNotTheBest();
        aTieIsNotTheBest();
        aThirdMayBeatTwo();
        nearerMethodsHide();
        methodsOutsideTheLineAreNotSeen();
        theWholeLineIsSeen();
        allMethodsMayBeCandidates();
        nameAndNumberOfArgumentsCount();
        argumentsAreGone();
        wrongInputsAreRefused();
        Check.end();
    }

    private static HostBridge oneObject() {
        HostBridge x = new HostBridge();
        x.klass(-1);
        x.object(0);
        return x;
    }

    private static void theLowestWeightsWin() {
        HostBridge x = oneObject();
        x.method(0, 1, 1, 5, 0);
        x.method(0, 1, 1, 3, 0);
        x.method(0, 1, 1, 2, 0);
        x.method(0, 1, 1, 0, 0);
        x.argument(3, Check.bits(5));
        Check.due("an int goes to long", x.call(0, 1), 2);
        x.argument(3, Check.bits(5.5));
        Check.due("5.5 goes to double", x.call(0, 1), 1);
        x.argument(2, 1);
        Check.due("truth goes to truth", x.call(0, 1), 3);
        x.argument(4, 1);
        Check.due("text goes to value", x.call(0, 1), 0);
        x.argument(1, 1);
        Check.due("null goes to value", x.call(0, 1), 0);
    }

    private static void aMixIsNotTheBest() {
        HostBridge x = oneObject();
        x.method(0, 1, 2, Check.types(1, 3), 0);
        x.method(0, 1, 2, Check.types(3, 1), 0);
        x.argument(3, 0);
        x.argument(3, 0);
        Check.dueThrow("int, double and double, int", Check.ILLEGAL_STATE, () -> x.call(0, 1));
        Check.due("what throws is not made", x.calls(), 0);
        x.argument(3, Check.bits(0.5));
        x.argument(3, 0);
        Check.due("only one fits", x.call(0, 1), 1);
    }

    private static void aTieIsNotTheBest() {
        HostBridge x = oneObject();
        x.klass(-1);
        x.method(0, 1, 1, 6, 0);
        x.method(0, 1, 1, 7, 0);
        x.argument(1, 0);
        Check.dueThrow("null for two classes", Check.ILLEGAL_STATE, () -> x.call(0, 1));
        x.method(0, 1, 1, 5, 0);
        x.argument(1, 0);
        Check.due("null for value, too", x.call(0, 1), 2);
    }

    private static void aThirdMayBeatTwo() {
        HostBridge x = oneObject();
        x.method(0, 1, 2, Check.types(1, 3), 0);
        x.method(0, 1, 2, Check.types(3, 1), 0);
        x.method(0, 1, 2, Check.types(1, 1), 0);
        x.argument(3, 0);
        x.argument(3, 0);
        Check.due("int, int", x.call(0, 1), 2);
    }

    private static void nearerMethodsHide() {
        HostBridge x = new HostBridge();
        x.klass(-1);
        x.klass(0);
        x.klass(1);
        x.klass(0);
        for (int i = 0; i < 4; i++) {
            x.object(i);
        }
        x.method(2, 1, 1, 1, 0);
        x.method(0, 1, 1, 1, 0);
        x.method(1, 1, 1, 1, 0);
        int[] due = {1, 2, 0, 1};
        for (int i = 0; i < 4; i++) {
            x.argument(3, 0);
            Check.due("a call of object " + i, x.call(i, 1), due[i]);
        }
        x.method(0, 1, 1, 0, 0);
        x.argument(2, 0);
        Check.due("not hidden: other parameters", x.call(2, 1), 3);
    }

    private static void methodsOutsideTheLineAreNotSeen() {
        HostBridge x = new HostBridge();
        x.klass(-1);
        x.klass(0);
        x.klass(0);
        x.object(0);
        x.object(2);
        x.method(1, 1, 0, 0, 0);
        Check.dueThrow("a child's method", Check.NO_ELEMENT, () -> x.call(0, 1));
        Check.dueThrow("a sibling's method", Check.NO_ELEMENT, () -> x.call(1, 1));
    }

    private static void theWholeLineIsSeen() {
        HostBridge x = new HostBridge();
        for (int i = 0; i < 16; i++) {
            x.klass(i - 1);
        }
        x.object(15);
        x.method(0, 1, 0, 0, 0);
        Check.due("the first class's method", x.call(0, 1), 0);
        x.method(15, 1, 0, 0, 0);
        Check.due("the last class's method", x.call(0, 1), 1);
    }

    private static void allMethodsMayBeCandidates() {
        HostBridge x = oneObject();
        for (int i = 0; i < 64; i++) {
            int types = 0;
            for (int at = 0; at < 4; at++) {
                types = types << 8 | 2 + (i >> 2 * at & 3);
            }
            x.method(0, 1, 4, types, 0);
        }
        for (int i = 0; i < 4; i++) {
            x.argument(3, 0);
        }
        Check.due("the only one with four longs", x.call(0, 1), 0);
        for (int i = 0; i < 4; i++) {
            x.argument(4, 0);
        }
        Check.dueThrow("texts for long", Check.NO_ELEMENT, () -> x.call(0, 1));
    }

    private static void nameAndNumberOfArgumentsCount() {
        HostBridge x = oneObject();
        for (int many = 0; many <= 4; many++) {
            x.method(0, 1, many, 0, 0);
        }
        x.method(0, 2, 0, 0, 0);
        for (int many = 0; many <= 4; many++) {
            for (int i = 0; i < many; i++) {
                x.argument(2, 0);
            }
            Check.due("with " + many, x.call(0, 1), many);
        }
        Check.due("another name", x.call(0, 2), 5);
        x.argument(2, 0);
        Check.dueThrow("one argument too many", Check.NO_ELEMENT, () -> x.call(0, 2));
        x.argument(2, 0);
        x.argument(4, 0);
        Check.dueThrow("the second one does not fit", Check.NO_ELEMENT, () -> x.call(0, 1));
        Check.dueThrow("no such name told", Check.NO_ELEMENT, () -> x.call(0, 999));
    }

    private static void argumentsAreGone() {
        HostBridge x = oneObject();
        x.method(0, 1, 1, 1, 0);
        x.method(0, 2, 2, Check.types(1, 3), 0);
        x.method(0, 2, 2, Check.types(3, 1), 0);
        x.argument(3, 0);
        x.call(0, 1);
        Check.due("after a call", x.argument(3, 0), 1);
        Check.dueThrow("no object", Check.ILLEGAL_ARGUMENT, () -> x.call(1, 1));
        Check.due("after no object", x.argument(3, 0), 1);
        Check.dueThrow("no name", Check.ILLEGAL_ARGUMENT, () -> x.call(0, 1000));
        Check.due("after no name", x.argument(3, 0), 1);
        Check.dueThrow("no candidates", Check.NO_ELEMENT, () -> x.call(0, 3));
        Check.due("after no candidates", x.argument(3, 0), 1);
        x.argument(3, 0);
        Check.dueThrow("no best", Check.ILLEGAL_STATE, () -> x.call(0, 2));
        Check.dueThrow("after no best: no weight", Check.ILLEGAL_ARGUMENT, () -> x.weight(0, 0));
        Check.due("after no best", x.argument(3, 0), 1);
    }

    private static void wrongInputsAreRefused() {
        HostBridge x = oneObject();
        x.method(0, 1, 0, 0, 0);
        Check.dueThrow("object -1", Check.ILLEGAL_ARGUMENT, () -> x.call(-1, 1));
        Check.dueThrow("object 1", Check.ILLEGAL_ARGUMENT, () -> x.call(1, 1));
        Check.dueThrow("object 64", Check.ILLEGAL_ARGUMENT, () -> x.call(64, 1));
        Check.dueThrow("name -1", Check.ILLEGAL_ARGUMENT, () -> x.call(0, -1));
        Check.dueThrow("name 1000", Check.ILLEGAL_ARGUMENT, () -> x.call(0, 1000));
        Check.due("none was made", x.calls(), 0);
    }
}
