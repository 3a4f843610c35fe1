/** Promise 11: calls. */
public final class CallsTest {
    public static void main(String[] args) {
        Check.sentence("How many calls were made", CallsTest::howMany);
        Check.sentence("How many calls were made: those that threw were not", CallsTest::withoutThoseThatThrew);
        Check.sentence("How many calls were made: also those that are not kept", CallsTest::moreThanAreKept);
        Check.end();
    }

    private static void howMany() {
        HostBridge x = Bridges.oneMethod();
        Check.due("none", x.calls(), 0);
        x.call(0, 0);
        Check.due("one", x.calls(), 1);
        Check.due("one, asked again", x.calls(), 1);
        x.exact(0, 0, 0);
        Check.due("two, an exact one among them", x.calls(), 2);
    }

    private static void withoutThoseThatThrew() {
        HostBridge x = Bridges.oneMethod();
        x.klass(-1);
        x.method(0, 1, 1, 6, 0);
        x.method(0, 1, 1, 7, 0);
        Check.dueThrow("no object", Check.ILLEGAL_ARGUMENT, () -> x.call(1, 0));
        Check.dueThrow("no name", Check.ILLEGAL_ARGUMENT, () -> x.call(0, 1000));
        Check.dueThrow("no candidates", Check.NO_ELEMENT, () -> x.call(0, 2));
        Bridges.nulls(x, 1);
        Check.dueThrow("none the best", Check.ILLEGAL_STATE, () -> x.call(0, 1));
        Check.dueThrow("no type", Check.ILLEGAL_ARGUMENT, () -> x.exact(0, 0, 1));
        Check.dueThrow("no method", Check.NO_ELEMENT, () -> x.exact(0, 2, 0));
        x.argument(Bridges.TEXT, 0);
        Check.dueThrow("no fit", Check.NO_ELEMENT, () -> x.exact(0, 1, 6));
        Check.due("none", x.calls(), 0);
    }

    private static void moreThanAreKept() {
        HostBridge x = Bridges.oneMethod();
        for (int k = 1; k <= 200; k++) {
            x.call(0, 0);
            Check.due("after call " + k, x.calls(), k);
        }
    }
}
