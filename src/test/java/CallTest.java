/** Promise 7: call. */
public final class CallTest {
    public static void main(String[] args) {
        Check.sentence("Makes a call with the arguments .. the method", CallTest::theMethod);
        Check.sentence("the arguments, which are gone then", CallTest::argumentsAreGone);
        Check.sentence("(also when this throws)", CallTest::argumentsAreGoneWhenItThrows);
        Check.sentence("IllegalArgumentException: there is no such object", CallTest::noSuchObject);
        Check.sentence("IllegalArgumentException: there is no such .. name", CallTest::noSuchName);
        Check.sentence("NoSuchElementException: there are no candidates", CallTest::noCandidates);
        Check.sentence("IllegalStateException: none is the best", CallTest::noneIsTheBest);
        Check.end();
    }

    /** Name 1 takes an int, name 2 two numbers that may be wavered about. */
    private static HostBridge twoNames() {
        HostBridge x = Bridges.oneObject();
        x.method(0, 1, 1, 1, 0);
        x.method(0, 2, 2, Check.types(1, 3), 0);
        x.method(0, 2, 2, Check.types(3, 1), 0);
        return x;
    }

    private static void theMethod() {
        HostBridge x = twoNames();
        Bridges.numbers(x, 5);
        Check.due("name 1", x.call(0, 1), 0);
        Bridges.numbers(x, 5, 5.5);
        Check.due("name 2, the second is no int", x.call(0, 2), 1);
        Bridges.numbers(x, 5.5, 5);
        Check.due("name 2, the first is no int", x.call(0, 2), 2);
        x.method(0, 2, 0, 0, 0);
        Check.due("name 2 without arguments", x.call(0, 2), 3);
        Check.due("all four are made", x.calls(), 4);
        x.method(0, 2, 4, Check.types(5, 5, 5, 5), 0);
        Bridges.nulls(x, 4);
        Check.due("name 2 with four", x.call(0, 2), 4);
    }

    private static void argumentsAreGone() {
        HostBridge x = twoNames();
        Bridges.numbers(x, 5);
        x.call(0, 1);
        Check.dueThrow("no weight", Check.ILLEGAL_ARGUMENT, () -> x.weight(0, 0));
        Check.dueThrow("no second call with it", Check.NO_ELEMENT, () -> x.call(0, 1));
        Check.due("again from one", x.argument(Bridges.NULL, 0), 1);
    }

    private static void gone(String what, Class<? extends Throwable> due, int object, int name, int many) {
        HostBridge x = twoNames();
        for (int i = 0; i < many; i++) {
            Bridges.numbers(x, 5);
        }
        Check.dueThrow(what, due, () -> x.call(object, name));
        Check.dueThrow(what + ": no weight", Check.ILLEGAL_ARGUMENT, () -> x.weight(0, 0));
        Check.due(what + ": again from one", x.argument(Bridges.NUMBER, 0), 1);
        Check.due(what + ": one is what the next call has", x.call(0, 1), 0);
        Check.due(what + ": its own argument", x.converted(0, 0), 0);
    }

    private static void argumentsAreGoneWhenItThrows() {
        gone("no object", Check.ILLEGAL_ARGUMENT, 1, 1, 1);
        gone("object -1", Check.ILLEGAL_ARGUMENT, -1, 1, 4);
        gone("no name", Check.ILLEGAL_ARGUMENT, 0, 1000, 1);
        gone("name -1", Check.ILLEGAL_ARGUMENT, 0, -1, 4);
        gone("no candidates", Check.NO_ELEMENT, 0, 3, 1);
        gone("too many", Check.NO_ELEMENT, 0, 1, 4);
        gone("none the best", Check.ILLEGAL_STATE, 0, 2, 2);
    }

    private static void noSuchObject() {
        HostBridge x = Bridges.oneMethod();
        for (int object : new int[] {-2, -1, 1, 63, 64}) {
            Check.dueThrow("object " + object, Check.ILLEGAL_ARGUMENT, () -> x.call(object, 0));
        }
        for (int object : Check.FAR_OFF) {
            Check.dueThrow("object " + object, Check.ILLEGAL_ARGUMENT, () -> x.call(object, 0));
        }
        Check.dueThrow("nor a method", Check.ILLEGAL_ARGUMENT, () -> x.call(1, 5));
        x.object(0);
        Check.due("object 1 when it is there", x.call(1, 0), 0);
        Check.due("the only call", x.calls(), 1);
        for (int i = 2; i < 64; i++) {
            x.object(0);
        }
        Check.due("object 63", x.call(63, 0), 0);
        Check.dueThrow("object 64", Check.ILLEGAL_ARGUMENT, () -> x.call(64, 0));
    }

    private static void noSuchName() {
        HostBridge x = Bridges.oneMethod();
        for (int name : new int[] {-1, 1000, 1001, Integer.MIN_VALUE, Integer.MAX_VALUE}) {
            Check.dueThrow("name " + name, Check.ILLEGAL_ARGUMENT, () -> x.call(0, name));
        }
        Check.dueThrow("name 999, which no method has", Check.NO_ELEMENT, () -> x.call(0, 999));
        Check.due("name 0", x.call(0, 0), 0);
        Check.due("the only call", x.calls(), 1);
    }

    private static void noCandidates() {
        HostBridge x = twoNames();
        Check.dueThrow("no method of the name", Check.NO_ELEMENT, () -> x.call(0, 3));
        Check.dueThrow("too few arguments", Check.NO_ELEMENT, () -> x.call(0, 1));
        Bridges.numbers(x, 5, 5);
        Check.dueThrow("too many arguments", Check.NO_ELEMENT, () -> x.call(0, 1));
        x.argument(Bridges.TEXT, 0);
        Check.dueThrow("a text for int", Check.NO_ELEMENT, () -> x.call(0, 1));
        Bridges.numbers(x, 5.5, 5.5);
        Check.dueThrow("neither fits", Check.NO_ELEMENT, () -> x.call(0, 2));
        Check.due("none was made", x.calls(), 0);
        Check.dueThrow("and none gave", Check.ILLEGAL_STATE, () -> x.given());
    }

    private static void noneIsTheBest() {
        HostBridge x = twoNames();
        Bridges.numbers(x, 5, 5);
        Check.dueThrow("two that waver", Check.ILLEGAL_STATE, () -> x.call(0, 2));
        Check.due("none was made", x.calls(), 0);
        x.klass(-1);
        x.method(0, 4, 1, 6, 0);
        x.method(0, 4, 1, 7, 0);
        Bridges.nulls(x, 1);
        Check.dueThrow("two alike", Check.ILLEGAL_STATE, () -> x.call(0, 4));
        Check.due("still none was made", x.calls(), 0);
        x.argument(Bridges.HOST, 0);
        Check.due("one that fits alone", x.call(0, 4), 3);
    }
}
