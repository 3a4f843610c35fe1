/** Promise 10: given. */
public final class GivenTest {
    public static void main(String[] args) {
        Check.sentence("What the latest call gave", GivenTest::theLatest);
        Check.sentence("IllegalStateException: there was none", GivenTest::none);
        Check.end();
    }

    private static void theLatest() {
        HostBridge x = Bridges.oneMethod();
        x.answer(5);
        x.answer(6);
        x.call(0, 0);
        Check.due("the first call's", x.given(), 5);
        Check.due("the same again", x.given(), 5);
        Check.dueThrow("a call that throws", Check.NO_ELEMENT, () -> x.call(0, 1));
        Check.dueThrow("an exact call that throws", Check.NO_ELEMENT, () -> x.exact(0, 1, 0));
        Check.due("what throws gives nothing", x.given(), 5);
        x.exact(0, 0, 0);
        Check.due("the exact call's", x.given(), 6);
        x.answer(7);
        Check.due("an answer after the call is not its own", x.given(), 6);
        x.call(0, 0);
        x.call(0, 0);
        Check.due("0 when there is none", x.given(), 0);
        x.answer(8);
        Check.due("an answer after it is not its own", x.given(), 0);
    }

    private static void none() {
        HostBridge x = new HostBridge();
        Check.dueThrow("a new object", Check.ILLEGAL_STATE, () -> x.given());
        x.answer(5);
        Check.dueThrow("an answer is no call", Check.ILLEGAL_STATE, () -> x.given());
        HostBridge y = Bridges.oneMethod();
        Check.dueThrow("no object", Check.ILLEGAL_ARGUMENT, () -> y.call(1, 0));
        Check.dueThrow("no candidates", Check.NO_ELEMENT, () -> y.call(0, 1));
        Check.dueThrow("no method", Check.NO_ELEMENT, () -> y.exact(0, 1, 0));
        Check.dueThrow("calls that threw are none", Check.ILLEGAL_STATE, () -> y.given());
        y.call(0, 0);
        Check.due("there was one", y.given(), 0);
    }
}
