import java.util.ArrayList;
import java.util.List;

/**
 * Calls that are refused, for each exception that the document names: the object
 * is left as it was, but for the arguments, which call and exact take away.
 *
 * Two objects are made alike, one of them is asked what it refuses, and then both
 * are asked the same. Each question has a pair of its own, since an object may be
 * used for 512 calls alone.
 */
public final class RefusedTest {
    private interface Maker {
        HostBridge make(boolean withArguments);
    }

    private interface Use {
        long of(HostBridge x);
    }

    private interface Question {
        void ask(HostBridge x, List<String> answers);
    }

    private static final List<Question> QUESTIONS = List.of(RefusedTest::weights, RefusedTest::diary,
            RefusedTest::values, RefusedTest::numbers, RefusedTest::answers, RefusedTest::nextCall,
            RefusedTest::methods);

    public static void main(String[] args) {
        Check.sentence("klass that throws", RefusedTest::klass);
        Check.sentence("method that throws", RefusedTest::method);
        Check.sentence("object that throws", RefusedTest::object);
        Check.sentence("argument that throws", RefusedTest::argument);
        Check.sentence("weight that throws", RefusedTest::weight);
        Check.sentence("call that throws", RefusedTest::call);
        Check.sentence("exact that throws", RefusedTest::exact);
        Check.sentence("answer that throws", RefusedTest::answer);
        Check.sentence("given that throws", RefusedTest::given);
        Check.sentence("look that throws", RefusedTest::look);
        Check.sentence("converted that throws", RefusedTest::converted);
        Check.end();
    }

    /** A new object, perhaps with an argument. */
    private static HostBridge fresh(boolean withArguments) {
        HostBridge x = new HostBridge();
        if (withArguments) {
            x.argument(Bridges.NULL, 0);
        }
        return x;
    }

    /** Some of everything, and room for more. */
    private static HostBridge some(boolean withArguments) {
        HostBridge x = Bridges.family();
        x.method(0, 0, 0, 0, 0);
        x.method(0, 1, 2, Check.types(0, 1), 0);
        x.method(0, 2, 2, Check.types(4, 5), 0);
        x.method(0, 2, 2, Check.types(5, 4), 0);
        for (int i = 11; i < 14; i++) {
            x.answer(i);
        }
        x.call(2, 0);
        if (withArguments) {
            x.argument(Bridges.TRUTH, 1);
            Bridges.numbers(x, 5);
        }
        return x;
    }

    /** As much of everything as there may be, and a call that is no longer kept. */
    private static HostBridge full(boolean withArguments) {
        HostBridge x = Bridges.line(16);
        for (int i = 0; i < 64; i++) {
            x.object(i % 16);
        }
        x.method(0, 0, 0, 0, 0);
        x.method(0, 1, 4, 0, 0);
        x.method(0, 2, 4, 0x04040405, 0);
        x.method(0, 2, 4, 0x05040404, 0);
        for (int m = 4; m < 64; m++) {
            x.method(m % 16, m, 1, 5, 0);
        }
        for (int k = 0; k < 65; k++) {
            x.call(k % 64, 0);
        }
        for (int i = 0; i < 64; i++) {
            x.answer(100 + i);
        }
        for (int i = 0; i < 4 && withArguments; i++) {
            x.argument(Bridges.TRUTH, i % 2);
        }
        return x;
    }

    private static String outcome(HostBridge x, Use use) {
        try {
            return Long.toString(use.of(x));
        } catch (RuntimeException e) {
            return e.getClass().getSimpleName();
        }
    }

    private static void weights(HostBridge x, List<String> answers) {
        for (int n = 0; n < 4 * 22; n++) {
            int each = n;
            answers.add(outcome(x, y -> y.weight(each / 22, each % 22)));
        }
    }

    private static void diary(HostBridge x, List<String> answers) {
        for (int n = 0; n < 66 * 3; n++) {
            int each = n;
            answers.add(outcome(x, y -> y.look(each / 3, each % 3)));
        }
    }

    private static void values(HostBridge x, List<String> answers) {
        for (int n = 0; n < 66 * 2; n++) {
            int each = n;
            answers.add(outcome(x, y -> y.converted(each / 2, each % 2)));
        }
    }

    private static void numbers(HostBridge x, List<String> answers) {
        answers.add(outcome(x, y -> y.calls()));
        answers.add(outcome(x, y -> y.given()));
        answers.add(outcome(x, y -> y.argument(Bridges.UNDEFINED, 0)));
        answers.add(outcome(x, y -> y.klass(-1)));
        answers.add(outcome(x, y -> y.object(0)));
        answers.add(outcome(x, y -> y.method(0, 900, 0, 0, 0)));
    }

    private static void answers(HostBridge x, List<String> answers) {
        answers.add(outcome(x, y -> y.call(0, 999)));
        for (int n = 0; n < 66; n++) {
            answers.add(outcome(x, y -> y.call(0, 0)));
            answers.add(outcome(x, y -> y.given()));
        }
    }

    private static void nextCall(HostBridge x, List<String> answers) {
        answers.add(outcome(x, y -> y.call(0, 1)));
        answers.add(outcome(x, y -> y.calls()));
        for (int n = 0; n < 4; n++) {
            int each = n;
            answers.add(outcome(x, y -> y.converted(y.calls() - 1, each)));
        }
    }

    private static void methods(HostBridge x, List<String> answers) {
        answers.add(outcome(x, y -> y.call(0, 999)));
        for (int n = 0; n < 66; n++) {
            int each = n;
            x.argument(Bridges.NULL, 0);
            answers.add(outcome(x, y -> y.call(Math.min(each, 15), each)));
        }
    }

    /** Use throws, and then x, of which it was asked, answers as one that is left alone. */
    private static void same(String what, Class<? extends Throwable> due, Maker maker, boolean takes, Use use) {
        for (Question question : QUESTIONS) {
            HostBridge x = maker.make(true);
            HostBridge y = maker.make(!takes);
            Check.dueThrow(what, due, () -> use.of(x));
            List<String> got = new ArrayList<>();
            List<String> want = new ArrayList<>();
            question.ask(x, got);
            question.ask(y, want);
            if (!got.equals(want)) {
                Check.complain(what + " left " + got + ", due is " + want);
            }
        }
    }

    private static void stays(String what, Class<? extends Throwable> due, Maker maker, Use use) {
        same(what, due, maker, false, use);
    }

    private static void takes(String what, Class<? extends Throwable> due, Maker maker, Use use) {
        same(what, due, maker, true, use);
    }

    private static void klass() {
        stays("no parent in a new object", Check.ILLEGAL_ARGUMENT, RefusedTest::fresh, x -> x.klass(0));
        stays("no parent", Check.ILLEGAL_ARGUMENT, RefusedTest::some, x -> x.klass(5));
        stays("parent -2", Check.ILLEGAL_ARGUMENT, RefusedTest::some, x -> x.klass(-2));
        stays("16", Check.ILLEGAL_STATE, RefusedTest::full, x -> x.klass(15));
        stays("16 and no parent", Check.ILLEGAL_ARGUMENT, RefusedTest::full, x -> x.klass(16));
    }

    private static void method() {
        stays("no class", Check.ILLEGAL_ARGUMENT, RefusedTest::some, x -> x.method(5, 3, 0, 0, 0));
        stays("no name", Check.ILLEGAL_ARGUMENT, RefusedTest::some, x -> x.method(0, 1000, 0, 0, 0));
        stays("no number", Check.ILLEGAL_ARGUMENT, RefusedTest::some, x -> x.method(0, 3, 5, 0, 0));
        stays("no type", Check.ILLEGAL_ARGUMENT, RefusedTest::some, x -> x.method(0, 3, 1, 11, 0));
        stays("a type too many", Check.ILLEGAL_ARGUMENT, RefusedTest::some, x -> x.method(0, 3, 0, 5, 0));
        stays("no result", Check.ILLEGAL_ARGUMENT, RefusedTest::some, x -> x.method(0, 3, 0, 0, 11));
        stays("has one", Check.ILLEGAL_STATE, RefusedTest::some, x -> x.method(0, 0, 0, 0, 1));
        stays("64", Check.ILLEGAL_STATE, RefusedTest::full, x -> x.method(0, 64, 1, 5, 0));
        stays("64 and has one", Check.ILLEGAL_STATE, RefusedTest::full, x -> x.method(0, 0, 0, 0, 0));
    }

    private static void object() {
        stays("no class in a new object", Check.ILLEGAL_ARGUMENT, RefusedTest::fresh, x -> x.object(0));
        stays("no class", Check.ILLEGAL_ARGUMENT, RefusedTest::some, x -> x.object(5));
        stays("64", Check.ILLEGAL_STATE, RefusedTest::full, x -> x.object(15));
    }

    private static void argument() {
        stays("no kind", Check.ILLEGAL_ARGUMENT, RefusedTest::some, x -> x.argument(7, 0));
        stays("no truth", Check.ILLEGAL_ARGUMENT, RefusedTest::some, x -> x.argument(2, 2));
        stays("no text", Check.ILLEGAL_ARGUMENT, RefusedTest::some, x -> x.argument(4, -1));
        stays("no host object", Check.ILLEGAL_ARGUMENT, RefusedTest::some, x -> x.argument(5, 5));
        stays("no other object", Check.ILLEGAL_ARGUMENT, RefusedTest::some, x -> x.argument(6, -1));
        stays("4", Check.ILLEGAL_STATE, RefusedTest::full, x -> x.argument(4, 0));
        stays("4 and no kind", Check.ILLEGAL_ARGUMENT, RefusedTest::full, x -> x.argument(7, 0));
    }

    private static void weight() {
        stays("no argument", Check.ILLEGAL_ARGUMENT, RefusedTest::some, x -> x.weight(2, 0));
        stays("no type", Check.ILLEGAL_ARGUMENT, RefusedTest::some, x -> x.weight(0, 11));
        stays("no argument of four", Check.ILLEGAL_ARGUMENT, RefusedTest::full, x -> x.weight(4, 0));
        stays("no type of 22", Check.ILLEGAL_ARGUMENT, RefusedTest::full, x -> x.weight(0, 22));
    }

    private static void call() {
        takes("no object in a new one", Check.ILLEGAL_ARGUMENT, RefusedTest::fresh, x -> x.call(0, 0));
        for (Maker maker : List.<Maker>of(RefusedTest::some, RefusedTest::full)) {
            takes("no object", Check.ILLEGAL_ARGUMENT, maker, x -> x.call(64, 0));
            takes("no name", Check.ILLEGAL_ARGUMENT, maker, x -> x.call(0, 1000));
            takes("no candidates", Check.NO_ELEMENT, maker, x -> x.call(0, 0));
            takes("none the best", Check.ILLEGAL_STATE, maker, x -> x.call(0, 2));
        }
    }

    private static void exact() {
        takes("no object in a new one", Check.ILLEGAL_ARGUMENT, RefusedTest::fresh, x -> x.exact(0, 0, 0));
        for (Maker maker : List.<Maker>of(RefusedTest::some, RefusedTest::full)) {
            takes("no object", Check.ILLEGAL_ARGUMENT, maker, x -> x.exact(64, 0, 0));
            takes("no name", Check.ILLEGAL_ARGUMENT, maker, x -> x.exact(0, 1000, 0));
            takes("no type", Check.ILLEGAL_ARGUMENT, maker, x -> x.exact(0, 1, 22));
            takes("no method", Check.NO_ELEMENT, maker, x -> x.exact(0, 1, Check.types(4, 4)));
        }
        takes("no fit", Check.NO_ELEMENT, RefusedTest::noFit, x -> x.exact(0, 1, Check.types(0, 1)));
    }

    /** Some of everything, with arguments that method 1 does not take. */
    private static HostBridge noFit(boolean withArguments) {
        HostBridge x = some(false);
        if (withArguments) {
            Bridges.numbers(x, 5, 5.5);
        }
        return x;
    }

    private static void answer() {
        stays("64", Check.ILLEGAL_STATE, RefusedTest::full, x -> {
            x.answer(7);
            return 0;
        });
    }

    private static void given() {
        stays("none", Check.ILLEGAL_STATE, RefusedTest::fresh, x -> x.given());
    }

    private static void look() {
        stays("no what", Check.ILLEGAL_ARGUMENT, RefusedTest::some, x -> x.look(0, 3));
        stays("no call", Check.OUT_OF_BOUNDS, RefusedTest::some, x -> x.look(1, 0));
        stays("not kept", Check.OUT_OF_BOUNDS, RefusedTest::full, x -> x.look(0, 0));
    }

    private static void converted() {
        stays("no call", Check.OUT_OF_BOUNDS, RefusedTest::some, x -> x.converted(1, 0));
        stays("no argument", Check.OUT_OF_BOUNDS, RefusedTest::some, x -> x.converted(0, 0));
        stays("not kept", Check.OUT_OF_BOUNDS, RefusedTest::full, x -> x.converted(0, 0));
    }
}
