/** Promise 2: klass. */
public final class KlassTest {
    public static void main(String[] args) {
        Check.sentence("One more class .. its number", KlassTest::numbers);
        Check.sentence("with a parent, or -1", KlassTest::parents);
        Check.sentence("IllegalArgumentException: there is no such parent", KlassTest::noSuchParent);
        Check.sentence("IllegalStateException: there are 16", KlassTest::sixteen);
        Check.end();
    }

    private static void numbers() {
        HostBridge x = new HostBridge();
        int[] parents = {-1, 0, 0, -1, 3, 1, 5};
        for (int i = 0; i < parents.length; i++) {
            Check.due("klass(" + parents[i] + ")", x.klass(parents[i]), i);
        }
    }

    private static void parents() {
        HostBridge x = new HostBridge();
        x.klass(-1);
        x.klass(-1);
        x.klass(1);
        x.argument(Bridges.HOST, x.object(2));
        x.argument(Bridges.HOST, x.object(1));
        Check.due("the parent", x.weight(0, 7), 1);
        Check.due("another class", x.weight(0, 6), -1);
        Check.due("-1 is no parent", x.weight(1, 6), -1);
    }

    private static void noSuchParent() {
        HostBridge x = new HostBridge();
        Check.dueThrow("klass(0), its own number", Check.ILLEGAL_ARGUMENT, () -> x.klass(0));
        Check.due("after the refusal", x.klass(-1), 0);
        for (int parent : new int[] {-2, 1, 2, 15, 16}) {
            Check.dueThrow("klass(" + parent + ")", Check.ILLEGAL_ARGUMENT, () -> x.klass(parent));
        }
        for (int parent : Check.FAR_OFF) {
            Check.dueThrow("klass(" + parent + ")", Check.ILLEGAL_ARGUMENT, () -> x.klass(parent));
        }
        Check.due("after the refusals", x.klass(0), 1);
    }

    private static void sixteen() {
        HostBridge x = Bridges.line(15);
        Check.due("the sixteenth", x.klass(14), 15);
        Check.dueThrow("a seventeenth without a parent", Check.ILLEGAL_STATE, () -> x.klass(-1));
        Check.dueThrow("a seventeenth of the first", Check.ILLEGAL_STATE, () -> x.klass(0));
        Check.dueThrow("a seventeenth of the last", Check.ILLEGAL_STATE, () -> x.klass(15));
        Check.dueThrow("a seventeenth of itself", Check.ILLEGAL_ARGUMENT, () -> x.klass(16));
        Check.dueThrow("again", Check.ILLEGAL_STATE, () -> x.klass(-1));
    }
}
