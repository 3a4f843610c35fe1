/** Promise 9: answer. */
public final class AnswerTest {
    public static void main(String[] args) {
        Check.sentence("One more answer of the host", AnswerTest::oneMore);
        Check.sentence("IllegalStateException: there are 64", AnswerTest::sixtyFour);
        Check.sentence("64 that were not given yet", AnswerTest::notGivenYet);
        Check.sentence("answer: the row of answers goes round", AnswerTest::round);
        Check.end();
    }

    private static void oneMore() {
        HostBridge x = Bridges.oneMethod();
        x.answer(Long.MIN_VALUE);
        x.answer(Long.MAX_VALUE);
        x.call(0, 0);
        x.answer(-1);
        Check.due("the first", x.given(), Long.MIN_VALUE);
        x.call(0, 0);
        Check.due("the second", x.given(), Long.MAX_VALUE);
        x.call(0, 0);
        Check.due("the third", x.given(), -1);
    }

    private static void sixtyFour() {
        HostBridge x = new HostBridge();
        for (int i = 0; i < 64; i++) {
            x.answer(i);
        }
        Check.dueThrow("a 65th", Check.ILLEGAL_STATE, () -> x.answer(99));
        Check.dueThrow("again", Check.ILLEGAL_STATE, () -> x.answer(0));
        HostBridge y = Bridges.oneMethod();
        for (int i = 0; i < 64; i++) {
            y.answer(100 + i);
        }
        Check.dueThrow("a 65th there", Check.ILLEGAL_STATE, () -> y.answer(99));
        for (int i = 0; i < 64; i++) {
            y.call(0, 0);
            Check.due("given " + i, y.given(), 100 + i);
        }
        y.call(0, 0);
        Check.due("the 65th is not there", y.given(), 0);
    }

    private static void notGivenYet() {
        HostBridge x = Bridges.oneMethod();
        for (int i = 0; i < 64; i++) {
            x.answer(i);
        }
        Check.dueThrow("a call that throws", Check.NO_ELEMENT, () -> x.call(0, 1));
        Check.dueThrow("it has given none", Check.ILLEGAL_STATE, () -> x.answer(99));
        x.call(0, 0);
        x.answer(64);
        Check.dueThrow("one was given, one came", Check.ILLEGAL_STATE, () -> x.answer(99));
        x.exact(0, 0, 0);
        x.call(0, 0);
        x.answer(65);
        x.answer(66);
        Check.dueThrow("two were given, two came", Check.ILLEGAL_STATE, () -> x.answer(99));
        for (int i = 3; i < 67; i++) {
            x.call(0, 0);
            Check.due("given " + i, x.given(), i);
        }
        x.call(0, 0);
        Check.due("all are given", x.given(), 0);
    }

    private static void round() {
        HostBridge x = Bridges.oneMethod();
        // Three come and two are given each time, so that the row fills while it goes round.
        int came = 0;
        int gone = 0;
        while (came - gone <= 61) {
            for (int i = 0; i < 3; i++) {
                x.answer(1000 + came++);
            }
            for (int i = 0; i < 2; i++) {
                x.call(0, 0);
                Check.due("given " + gone, x.given(), 1000 + gone);
                gone++;
            }
        }
        x.answer(1000 + came++);
        x.answer(1000 + came);
        Check.dueThrow("it is full", Check.ILLEGAL_STATE, () -> x.answer(99));
        x.call(0, 0);
        Check.due("the next one", x.given(), 1000 + gone);
    }
}
