/** Promise 8: exact. */
public final class ExactTest {
    public static void main(String[] args) {
        theTypesChoose();
        nearerMethodsHide();
        theWholeLineIsSeen();
        noSuchMethodOrNoFit();
        wrongInputsAreRefused();
        argumentsAreGone();
        Check.end();
    }

    private static HostBridge oneObject() {
        HostBridge x = new HostBridge();
        x.klass(-1);
        x.object(0);
        return x;
    }

    private static void theTypesChoose() {
        HostBridge x = oneObject();
        x.method(0, 1, 2, Check.types(1, 3), 0);
        x.method(0, 1, 2, Check.types(3, 1), 0);
        x.method(0, 1, 4, Check.types(6, 5, 4, 0), 0);
        x.method(0, 1, 0, 0, 0);
        x.argument(3, 0);
        x.argument(3, 0);
        Check.due("int, double", x.exact(0, 1, Check.types(1, 3)), 0);
        x.argument(3, 0);
        x.argument(3, 0);
        Check.due("double, int", x.exact(0, 1, Check.types(3, 1)), 1);
        x.argument(1, 0);
        x.argument(0, 0);
        x.argument(6, 0);
        x.argument(3, 0);
        Check.due("four", x.exact(0, 1, Check.types(6, 5, 4, 0)), 2);
        Check.due("none", x.exact(0, 1, 0), 3);
        Check.due("four are made", x.calls(), 4);
        Check.due("the second one's method", x.look(1, 1), 1);
        Check.due("the third one's null", x.converted(2, 0), -1);
    }

    private static void nearerMethodsHide() {
        HostBridge x = new HostBridge();
        x.klass(-1);
        x.klass(0);
        x.klass(1);
        x.object(2);
        x.object(0);
        x.method(0, 1, 0, 0, 0);
        x.method(1, 1, 0, 0, 0);
        x.method(2, 2, 0, 0, 0);
        Check.due("the nearer one", x.exact(0, 1, 0), 1);
        Check.due("the farther class's object", x.exact(1, 1, 0), 0);
        Check.dueThrow("a child's method", Check.NO_ELEMENT, () -> x.exact(1, 2, 0));
    }

    private static void theWholeLineIsSeen() {
        HostBridge x = new HostBridge();
        for (int i = 0; i < 16; i++) {
            x.klass(i - 1);
        }
        x.object(15);
        x.method(0, 1, 0, 0, 0);
        Check.due("the first class's method", x.exact(0, 1, 0), 0);
        x.method(15, 1, 0, 0, 0);
        Check.due("the last class's method", x.exact(0, 1, 0), 1);
    }

    private static void noSuchMethodOrNoFit() {
        HostBridge x = oneObject();
        x.method(0, 1, 1, 1, 0);
        x.argument(3, 0);
        Check.dueThrow("no such types", Check.NO_ELEMENT, () -> x.exact(0, 1, 2));
        x.argument(3, 0);
        Check.dueThrow("no such name told", Check.NO_ELEMENT, () -> x.exact(0, 2, 1));
        Check.dueThrow("no such number of arguments", Check.NO_ELEMENT, () -> x.exact(0, 1, 0));
        x.argument(3, 0);
        x.argument(3, 0);
        Check.dueThrow("two for one", Check.NO_ELEMENT, () -> x.exact(0, 1, 1));
        x.argument(3, Check.bits(0.5));
        Check.dueThrow("does not fit", Check.NO_ELEMENT, () -> x.exact(0, 1, 1));
        Check.due("none was made", x.calls(), 0);
    }

    private static void wrongInputsAreRefused() {
        HostBridge x = oneObject();
        x.method(0, 1, 0, 0, 0);
        Check.dueThrow("object -1", Check.ILLEGAL_ARGUMENT, () -> x.exact(-1, 1, 0));
        Check.dueThrow("object 1", Check.ILLEGAL_ARGUMENT, () -> x.exact(1, 1, 0));
        Check.dueThrow("name -1", Check.ILLEGAL_ARGUMENT, () -> x.exact(0, -1, 0));
        Check.dueThrow("name 1000", Check.ILLEGAL_ARGUMENT, () -> x.exact(0, 1000, 0));
        Check.dueThrow("a type for no argument", Check.ILLEGAL_ARGUMENT, () -> x.exact(0, 1, 1));
        Check.dueThrow("the top bit", Check.ILLEGAL_ARGUMENT, () -> x.exact(0, 1, 1 << 31));
        for (int i = 0; i < 4; i++) {
            for (int many = 0; many < 4; many++) {
                x.argument(2, 0);
            }
            int wrong = 7 << 8 * i;
            Check.dueThrow("type 7 at " + i, Check.ILLEGAL_ARGUMENT, () -> x.exact(0, 1, wrong));
        }
        x.argument(2, 0);
        Check.dueThrow("two types for one", Check.ILLEGAL_ARGUMENT, () -> x.exact(0, 1, Check.types(1, 0)));
        Check.due("none was made", x.calls(), 0);
    }

    private static void argumentsAreGone() {
        HostBridge x = oneObject();
        x.method(0, 1, 1, 1, 0);
        x.argument(3, 0);
        x.exact(0, 1, 1);
        Check.due("after a call", x.argument(3, 0), 1);
        Check.dueThrow("no object", Check.ILLEGAL_ARGUMENT, () -> x.exact(1, 1, 1));
        Check.due("after no object", x.argument(3, 0), 1);
        Check.dueThrow("no name", Check.ILLEGAL_ARGUMENT, () -> x.exact(0, 1000, 1));
        Check.due("after no name", x.argument(3, 0), 1);
        Check.dueThrow("no type", Check.ILLEGAL_ARGUMENT, () -> x.exact(0, 1, 7));
        Check.due("after no type", x.argument(3, 0), 1);
        Check.dueThrow("no method", Check.NO_ELEMENT, () -> x.exact(0, 1, 0));
        Check.due("after no method", x.argument(4, 0), 1);
        Check.dueThrow("no fit", Check.NO_ELEMENT, () -> x.exact(0, 1, 1));
        Check.due("after no fit", x.argument(3, 0), 1);
    }
}
