/** Promise 4: object. */
public final class ObjectTest {
    public static void main(String[] args) {
        Check.sentence("One more object: its number", ObjectTest::numbers);
        Check.sentence("IllegalArgumentException: there is no such class", ObjectTest::noSuchClass);
        Check.sentence("IllegalStateException: there are 64", ObjectTest::sixtyFour);
        Check.end();
    }

    private static void numbers() {
        HostBridge x = new HostBridge();
        x.klass(-1);
        x.klass(-1);
        Check.due("object(1)", x.object(1), 0);
        Check.due("object(0)", x.object(0), 1);
        Check.due("object(1) again", x.object(1), 2);
        int[] classes = {1, 0, 1};
        for (int i = 0; i < 3; i++) {
            x.argument(Bridges.HOST, i);
            Check.due("the class of object " + i, x.weight(i, 6 + classes[i]), 0);
            Check.due("the other class", x.weight(i, 7 - classes[i]), -1);
        }
    }

    private static void noSuchClass() {
        HostBridge x = new HostBridge();
        Check.dueThrow("object(0) without classes", Check.ILLEGAL_ARGUMENT, () -> x.object(0));
        Check.dueThrow("object(-1) without classes", Check.ILLEGAL_ARGUMENT, () -> x.object(-1));
        x.klass(-1);
        x.klass(0);
        for (int klass : new int[] {-2, -1, 2, 15, 16}) {
            Check.dueThrow("object(" + klass + ")", Check.ILLEGAL_ARGUMENT, () -> x.object(klass));
        }
        for (int klass : Check.FAR_OFF) {
            Check.dueThrow("object(" + klass + ")", Check.ILLEGAL_ARGUMENT, () -> x.object(klass));
        }
        Check.due("after the refusals", x.object(1), 0);
        HostBridge full = Bridges.line(16);
        Check.due("object(15)", full.object(15), 0);
        Check.dueThrow("object(16)", Check.ILLEGAL_ARGUMENT, () -> full.object(16));
    }

    private static void sixtyFour() {
        HostBridge x = Bridges.line(2);
        for (int i = 0; i < 64; i++) {
            Check.due("object " + i, x.object(i % 2), i);
        }
        Check.dueThrow("a 65th of class 0", Check.ILLEGAL_STATE, () -> x.object(0));
        Check.dueThrow("a 65th of class 1", Check.ILLEGAL_STATE, () -> x.object(1));
        Check.dueThrow("a 65th of no class", Check.ILLEGAL_ARGUMENT, () -> x.object(2));
        x.method(1, 1, 0, 0, 0);
        Check.due("a call of the last one", x.call(63, 1), 0);
        Check.dueThrow("a call of the refused one", Check.ILLEGAL_ARGUMENT, () -> x.call(64, 1));
    }
}
