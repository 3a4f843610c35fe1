/** Promise 1: a new object. */
public final class NewObjectTest {
    public static void main(String[] args) {
        Check.sentence("No classes", NewObjectTest::noClasses);
        Check.sentence("No .. methods", NewObjectTest::noMethods);
        Check.sentence("No .. objects", NewObjectTest::noObjects);
        Check.sentence("nothing written down", NewObjectTest::nothingWrittenDown);
        Check.sentence("HostBridge(): no arguments and no answers either", NewObjectTest::nothingWaits);
        Check.sentence("HostBridge(): another object's calls are not its own", NewObjectTest::nothingShared);
        Check.end();
    }

    private static void noClasses() {
        HostBridge x = new HostBridge();
        Check.dueThrow("klass(0)", Check.ILLEGAL_ARGUMENT, () -> x.klass(0));
        Check.dueThrow("object(0)", Check.ILLEGAL_ARGUMENT, () -> x.object(0));
        Check.dueThrow("method of class 0", Check.ILLEGAL_ARGUMENT, () -> x.method(0, 0, 0, 0, 0));
        x.argument(Bridges.NULL, 0);
        Check.dueThrow("type 6", Check.ILLEGAL_ARGUMENT, () -> x.weight(0, 6));
        Check.due("the first class", x.klass(-1), 0);
    }

    private static void noMethods() {
        HostBridge x = Bridges.oneObject();
        for (int name : new int[] {0, 1, 999}) {
            Check.dueThrow("call " + name, Check.NO_ELEMENT, () -> x.call(0, name));
            Check.dueThrow("exact " + name, Check.NO_ELEMENT, () -> x.exact(0, name, 0));
        }
        Check.due("the first method", x.method(0, 0, 0, 0, 0), 0);
    }

    private static void noObjects() {
        HostBridge x = new HostBridge();
        Check.dueThrow("call(0, 0)", Check.ILLEGAL_ARGUMENT, () -> x.call(0, 0));
        Check.dueThrow("exact(0, 0, 0)", Check.ILLEGAL_ARGUMENT, () -> x.exact(0, 0, 0));
        Check.dueThrow("object 0 as an argument", Check.ILLEGAL_ARGUMENT, () -> x.argument(Bridges.HOST, 0));
        x.klass(-1);
        Check.due("the first object", x.object(0), 0);
    }

    private static void nothingWrittenDown() {
        HostBridge x = new HostBridge();
        Check.due("calls", x.calls(), 0);
        Check.dueThrow("given", Check.ILLEGAL_STATE, () -> x.given());
        for (int what = 0; what < 3; what++) {
            int each = what;
            Check.dueThrow("look " + what, Check.OUT_OF_BOUNDS, () -> x.look(0, each));
        }
        Check.dueThrow("converted", Check.OUT_OF_BOUNDS, () -> x.converted(0, 0));
    }

    private static void nothingWaits() {
        HostBridge x = new HostBridge();
        Check.dueThrow("weight(0, 0)", Check.ILLEGAL_ARGUMENT, () -> x.weight(0, 0));
        Check.due("the first argument", x.argument(Bridges.NULL, 0), 1);
        HostBridge y = Bridges.oneMethod();
        y.call(0, 0);
        Check.due("what the first call gives", y.given(), 0);
    }

    private static void nothingShared() {
        HostBridge x = Bridges.oneMethod();
        x.answer(5);
        x.call(0, 0);
        x.answer(6);
        x.argument(Bridges.NULL, 0);
        HostBridge y = new HostBridge();
        Check.due("calls", y.calls(), 0);
        Check.due("klass", y.klass(-1), 0);
        Check.due("object", y.object(0), 0);
        Check.due("method", y.method(0, 0, 0, 0, 0), 0);
        Check.due("argument", y.argument(Bridges.NULL, 0), 1);
        Check.dueThrow("call with the argument", Check.NO_ELEMENT, () -> y.call(0, 0));
        Check.due("call without it", y.call(0, 0), 0);
        Check.due("given", y.given(), 0);
        Check.due("the first one's given", x.given(), 5);
        Check.due("the first one's calls", x.calls(), 1);
    }
}
