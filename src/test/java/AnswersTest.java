/** Promises 9 and 10: answer and given. */
public final class AnswersTest {
    public static void main(String[] args) {
        answersAreGivenInTheirOrder();
        withoutAnswersZeroIsGiven();
        whatThrowsGivesNothing();
        sixtyFourMayWait();
        Check.end();
    }

    private static HostBridge oneMethod() {
        HostBridge x = new HostBridge();
        x.klass(-1);
        x.object(0);
        x.method(0, 0, 0, 0, 0);
        return x;
    }

    private static void answersAreGivenInTheirOrder() {
        HostBridge x = oneMethod();
        x.answer(Long.MIN_VALUE);
        x.answer(7);
        Check.dueThrow("an answer is no call", Check.ILLEGAL_STATE, () -> x.given());
        x.call(0, 0);
        x.answer(8);
        Check.due("the first one", x.given(), Long.MIN_VALUE);
        Check.due("the first one again", x.given(), Long.MIN_VALUE);
        x.exact(0, 0, 0);
        Check.due("the second one", x.given(), 7);
        x.call(0, 0);
        Check.due("the third one", x.given(), 8);
    }

    private static void withoutAnswersZeroIsGiven() {
        HostBridge x = oneMethod();
        x.call(0, 0);
        Check.due("none there", x.given(), 0);
        x.answer(5);
        Check.due("an answer after the call", x.given(), 0);
        x.call(0, 0);
        x.call(0, 0);
        Check.due("none left", x.given(), 0);
    }

    private static void whatThrowsGivesNothing() {
        HostBridge x = oneMethod();
        x.answer(5);
        x.answer(6);
        Check.dueThrow("no candidates", Check.NO_ELEMENT, () -> x.call(0, 1));
        Check.dueThrow("no call yet", Check.ILLEGAL_STATE, () -> x.given());
        x.call(0, 0);
        Check.dueThrow("no such method", Check.NO_ELEMENT, () -> x.exact(0, 1, 0));
        Check.due("the latest call's", x.given(), 5);
        x.call(0, 0);
        Check.due("none is lost", x.given(), 6);
    }

    private static void sixtyFourMayWait() {
        HostBridge x = oneMethod();
        for (int i = 0; i < 64; i++) {
            x.answer(i);
        }
        Check.dueThrow("answer 65", Check.ILLEGAL_STATE, () -> x.answer(99));
        x.call(0, 0);
        x.answer(64);
        Check.dueThrow("answer 66", Check.ILLEGAL_STATE, () -> x.answer(99));
        for (int i = 1; i <= 64; i++) {
            x.call(0, 0);
            Check.due("given " + i, x.given(), i);
        }
        x.call(0, 0);
        Check.due("all are given", x.given(), 0);
    }
}
