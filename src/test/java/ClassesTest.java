/** Promises 1, 2 and 4: a new object, klass and object. */
public final class ClassesTest {
    public static void main(String[] args) {
        aNewObjectIsEmpty();
        newObjectsShareNothing();
        classesAreNumbered();
        parentsMustBeThere();
        sixteenClassesAreAll();
        objectsAreNumbered();
        sixtyFourObjectsAreAll();
        Check.end();
    }

    private static void aNewObjectIsEmpty() {
        HostBridge x = new HostBridge();
        Check.due("new: calls", x.calls(), 0);
        Check.dueThrow("new: given", Check.ILLEGAL_STATE, () -> x.given());
        Check.dueThrow("new: look", Check.OUT_OF_BOUNDS, () -> x.look(0, 0));
        Check.dueThrow("new: converted", Check.OUT_OF_BOUNDS, () -> x.converted(0, 0));
        Check.dueThrow("new: object", Check.ILLEGAL_ARGUMENT, () -> x.object(0));
        Check.dueThrow("new: method", Check.ILLEGAL_ARGUMENT, () -> x.method(0, 0, 0, 0, 0));
        Check.dueThrow("new: weight", Check.ILLEGAL_ARGUMENT, () -> x.weight(0, 0));
        Check.dueThrow("new: host argument", Check.ILLEGAL_ARGUMENT, () -> x.argument(5, 0));
        Check.dueThrow("new: call", Check.ILLEGAL_ARGUMENT, () -> x.call(0, 0));
        Check.dueThrow("new: exact", Check.ILLEGAL_ARGUMENT, () -> x.exact(0, 0, 0));
        Check.due("new: the first argument", x.argument(0, 0), 1);
        Check.dueThrow("new: a class's type", Check.ILLEGAL_ARGUMENT, () -> x.weight(0, 6));
    }

    private static void newObjectsShareNothing() {
        HostBridge x = new HostBridge();
        x.klass(-1);
        x.object(0);
        x.method(0, 0, 0, 0, 0);
        x.call(0, 0);
        HostBridge y = new HostBridge();
        Check.due("another: calls", y.calls(), 0);
        Check.due("another: klass", y.klass(-1), 0);
        Check.due("another: object", y.object(0), 0);
        Check.due("another: method", y.method(0, 0, 0, 0, 0), 0);
    }

    private static void classesAreNumbered() {
        HostBridge x = new HostBridge();
        Check.due("klass(-1)", x.klass(-1), 0);
        Check.due("klass(0)", x.klass(0), 1);
        Check.due("klass(0) again", x.klass(0), 2);
        Check.due("klass(-1) again", x.klass(-1), 3);
    }

    private static void parentsMustBeThere() {
        HostBridge x = new HostBridge();
        Check.dueThrow("klass(0) with no class", Check.ILLEGAL_ARGUMENT, () -> x.klass(0));
        Check.due("klass after a refusal", x.klass(-1), 0);
        Check.dueThrow("klass(1): itself", Check.ILLEGAL_ARGUMENT, () -> x.klass(1));
        Check.dueThrow("klass(-2)", Check.ILLEGAL_ARGUMENT, () -> x.klass(-2));
        Check.dueThrow("klass(lowest)", Check.ILLEGAL_ARGUMENT, () -> x.klass(Integer.MIN_VALUE));
        Check.dueThrow("klass(highest)", Check.ILLEGAL_ARGUMENT, () -> x.klass(Integer.MAX_VALUE));
    }

    private static void sixteenClassesAreAll() {
        HostBridge x = new HostBridge();
        for (int i = 0; i < 16; i++) {
            Check.due("klass " + i, x.klass(i - 1), i);
        }
        Check.dueThrow("klass 17", Check.ILLEGAL_STATE, () -> x.klass(-1));
        Check.dueThrow("klass 17 of 15", Check.ILLEGAL_STATE, () -> x.klass(15));
        Check.dueThrow("klass 17, no parent either", Check.ILLEGAL_ARGUMENT, () -> x.klass(16));
        Check.due("an object of the last class", x.object(15), 0);
        x.argument(5, 0);
        Check.due("the longest line", x.weight(0, 6), 15);
        Check.due("the last type", x.weight(0, 21), 0);
        Check.dueThrow("one type more", Check.ILLEGAL_ARGUMENT, () -> x.weight(0, 22));
    }

    private static void objectsAreNumbered() {
        HostBridge x = new HostBridge();
        x.klass(-1);
        x.klass(-1);
        Check.due("object(1)", x.object(1), 0);
        Check.due("object(0)", x.object(0), 1);
        Check.dueThrow("object(2)", Check.ILLEGAL_ARGUMENT, () -> x.object(2));
        Check.dueThrow("object(-1)", Check.ILLEGAL_ARGUMENT, () -> x.object(-1));
        Check.due("object after a refusal", x.object(1), 2);
        x.argument(5, 1);
        Check.due("object 1 is of class 0", x.weight(0, 6), 0);
        Check.due("object 1 is not of class 1", x.weight(0, 7), -1);
    }

    private static void sixtyFourObjectsAreAll() {
        HostBridge x = new HostBridge();
        x.klass(-1);
        for (int i = 0; i < 64; i++) {
            Check.due("object " + i, x.object(0), i);
        }
        Check.dueThrow("object 65", Check.ILLEGAL_STATE, () -> x.object(0));
        Check.dueThrow("object 65, no class either", Check.ILLEGAL_ARGUMENT, () -> x.object(1));
        Check.due("the last object as argument", x.argument(5, 63), 1);
        Check.dueThrow("one object more", Check.ILLEGAL_ARGUMENT, () -> x.argument(5, 64));
    }
}
