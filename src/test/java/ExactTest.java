/** Promise 8: exact. */
public final class ExactTest {
    public static void main(String[] args) {
        Check.sentence("Makes an exact call", ExactTest::theMethod);
        Check.sentence("likewise: the arguments are gone then, also when this throws", ExactTest::argumentsAreGone);
        Check.sentence("as many types as there are arguments", ExactTest::asManyTypes);
        Check.sentence("a byte each as for method", ExactTest::bytes);
        Check.sentence("IllegalArgumentException: there is no such object", ExactTest::noSuchObject);
        Check.sentence("IllegalArgumentException: there is no such .. name", ExactTest::noSuchName);
        Check.sentence("IllegalArgumentException: there is no such .. type", ExactTest::noSuchType);
        Check.sentence("NoSuchElementException: there is no such method", ExactTest::noSuchMethod);
        Check.sentence("NoSuchElementException: .. or its arguments do not fit", ExactTest::doNotFit);
        Check.end();
    }

    private static HostBridge severalMethods() {
        HostBridge x = Bridges.oneObject();
        x.method(0, 1, 2, Check.types(1, 3), 0);
        x.method(0, 1, 2, Check.types(3, 1), 0);
        x.method(0, 1, 4, Check.types(6, 5, 4, 0), 0);
        x.method(0, 1, 0, 0, 0);
        x.method(0, 1, 1, 1, 0);
        return x;
    }

    private static void theMethod() {
        HostBridge x = severalMethods();
        x.answer(9);
        Bridges.numbers(x, 0, 0);
        Check.due("int, double", x.exact(0, 1, Check.types(1, 3)), 0);
        Check.due("it gives the answer", x.given(), 9);
        Bridges.numbers(x, 0, 0);
        Check.due("double, int", x.exact(0, 1, Check.types(3, 1)), 1);
        x.argument(Bridges.NULL, 0);
        x.argument(Bridges.UNDEFINED, 0);
        x.argument(Bridges.OTHER, 0);
        Bridges.numbers(x, 0);
        Check.due("four", x.exact(0, 1, Check.types(6, 5, 4, 0)), 2);
        Check.due("none", x.exact(0, 1, 0), 3);
        Check.due("four are made", x.calls(), 4);
        Check.due("the second one's method", x.look(1, 1), 1);
        Check.due("the third one's null", x.converted(2, 0), -1);
        Check.due("the fourth one's arguments", x.look(3, 2), 0);
    }

    private static void gone(String what, Class<? extends Throwable> due, int object, int name, int types) {
        HostBridge x = severalMethods();
        x.argument(Bridges.TEXT, 5);
        Check.dueThrow(what, due, () -> x.exact(object, name, types));
        Check.dueThrow(what + ": no weight", Check.ILLEGAL_ARGUMENT, () -> x.weight(0, 0));
        Check.due(what + ": again from one", x.argument(Bridges.NUMBER, 0), 1);
        Check.due(what + ": one is what the next call has", x.exact(0, 1, 1), 4);
    }

    private static void argumentsAreGone() {
        HostBridge x = severalMethods();
        Bridges.numbers(x, 5);
        x.exact(0, 1, 1);
        Check.due("after a call that is made", x.argument(Bridges.NULL, 0), 1);
        gone("no object", Check.ILLEGAL_ARGUMENT, 1, 1, 1);
        gone("no name", Check.ILLEGAL_ARGUMENT, 0, 1000, 1);
        gone("no type", Check.ILLEGAL_ARGUMENT, 0, 1, 7);
        gone("two types", Check.ILLEGAL_ARGUMENT, 0, 1, Check.types(1, 1));
        gone("no method", Check.NO_ELEMENT, 0, 1, 2);
        gone("no fit", Check.NO_ELEMENT, 0, 1, 1);
    }

    private static void asManyTypes() {
        HostBridge x = severalMethods();
        Check.dueThrow("a type without arguments", Check.ILLEGAL_ARGUMENT, () -> x.exact(0, 1, 1));
        Bridges.numbers(x, 0);
        Check.dueThrow("two types for one", Check.ILLEGAL_ARGUMENT, () -> x.exact(0, 1, Check.types(1, 3)));
        Bridges.numbers(x, 0, 0, 0);
        Check.dueThrow("four types for three", Check.ILLEGAL_ARGUMENT, () -> x.exact(0, 1, 0x01000000));
        // Truth is 0, so one type for two arguments is a truth and it.
        Bridges.numbers(x, 0, 0);
        Check.dueThrow("one type for two", Check.NO_ELEMENT, () -> x.exact(0, 1, 1));
        Bridges.numbers(x, 0);
        Check.due("one type for one", x.exact(0, 1, 1), 4);
        Check.due("no type for none", x.exact(0, 1, 0), 3);
    }

    private static void bytes() {
        HostBridge x = Bridges.oneObject();
        for (int many = 0; many < 4; many++) {
            for (int bit = 8 * many; bit < 32; bit += 3) {
                Bridges.nulls(x, many);
                int above = 1 << bit;
                Check.dueThrow("bit " + bit + " for " + many, Check.ILLEGAL_ARGUMENT, () -> x.exact(0, 1, above));
            }
            Bridges.nulls(x, many);
            Check.dueThrow("the top bit for " + many, Check.ILLEGAL_ARGUMENT, () -> x.exact(0, 1, 1 << 31));
        }
        x.method(0, 1, 4, Check.types(0, 2, 4, 6), 0);
        x.argument(Bridges.TRUTH, 1);
        Bridges.numbers(x, 8);
        x.argument(Bridges.TEXT, 9);
        x.argument(Bridges.HOST, 0);
        Check.due("the last one's is the lowest", x.exact(0, 1, 0x00020406), 0);
        Check.due("the truth", x.converted(0, 0), 1);
        Check.due("the long", x.converted(0, 1), 8);
    }

    private static void noSuchObject() {
        HostBridge x = severalMethods();
        for (int object : new int[] {-2, -1, 1, 63, 64}) {
            Check.dueThrow("object " + object, Check.ILLEGAL_ARGUMENT, () -> x.exact(object, 1, 0));
        }
        for (int object : Check.FAR_OFF) {
            Check.dueThrow("object " + object, Check.ILLEGAL_ARGUMENT, () -> x.exact(object, 1, 0));
        }
        Check.dueThrow("nor a method", Check.ILLEGAL_ARGUMENT, () -> x.exact(1, 5, 0));
        x.object(0);
        Check.due("object 1 when it is there", x.exact(1, 1, 0), 3);
        Check.due("the only call", x.calls(), 1);
    }

    private static void noSuchName() {
        HostBridge x = severalMethods();
        for (int name : new int[] {-1, 1000, 1001, Integer.MIN_VALUE, Integer.MAX_VALUE}) {
            Check.dueThrow("name " + name, Check.ILLEGAL_ARGUMENT, () -> x.exact(0, name, 0));
        }
        Check.dueThrow("name 999, which no method has", Check.NO_ELEMENT, () -> x.exact(0, 999, 0));
        Check.dueThrow("name 0, which no method has", Check.NO_ELEMENT, () -> x.exact(0, 0, 0));
        Check.due("none was made", x.calls(), 0);
    }

    private static void noSuchType() {
        HostBridge x = severalMethods();
        for (int i = 0; i < 4; i++) {
            for (int type : new int[] {7, 22, 127, 128, 255}) {
                Bridges.nulls(x, 4);
                int wrong = type << 8 * i;
                Check.dueThrow("type " + type + " at " + i, Check.ILLEGAL_ARGUMENT, () -> x.exact(0, 1, wrong));
            }
        }
        Bridges.nulls(x, 1);
        Check.dueThrow("type 6, which no method has", Check.NO_ELEMENT, () -> x.exact(0, 1, 6));
        Bridges.nulls(x, 1);
        Check.dueThrow("type 7", Check.ILLEGAL_ARGUMENT, () -> x.exact(0, 1, 7));
        x.klass(-1);
        Bridges.nulls(x, 1);
        Check.dueThrow("type 7 when it is there", Check.NO_ELEMENT, () -> x.exact(0, 1, 7));
        Check.due("none was made", x.calls(), 0);
    }

    private static void noSuchMethod() {
        HostBridge x = severalMethods();
        x.klass(0);
        x.object(1);
        x.method(1, 2, 0, 0, 0);
        Bridges.numbers(x, 0);
        Check.dueThrow("no such types", Check.NO_ELEMENT, () -> x.exact(0, 1, 2));
        Bridges.numbers(x, 0);
        Check.dueThrow("no such name", Check.NO_ELEMENT, () -> x.exact(0, 3, 1));
        Bridges.numbers(x, 0, 0, 0);
        Check.dueThrow("no such number of arguments", Check.NO_ELEMENT, () -> x.exact(0, 1, 1));
        Check.dueThrow("a child's", Check.NO_ELEMENT, () -> x.exact(0, 2, 0));
        Check.due("none was made", x.calls(), 0);
        Check.due("the child's own", x.exact(1, 2, 0), 5);
        Check.due("the parent's", x.exact(1, 1, 0), 3);
    }

    private static void doNotFit() {
        HostBridge x = severalMethods();
        x.answer(9);
        Bridges.numbers(x, 0.5);
        Check.dueThrow("0.5 for int", Check.NO_ELEMENT, () -> x.exact(0, 1, 1));
        Bridges.numbers(x, -0.0);
        Check.dueThrow("-0 for int", Check.NO_ELEMENT, () -> x.exact(0, 1, 1));
        Bridges.numbers(x, 0.5, 0.5);
        Check.dueThrow("the first does not", Check.NO_ELEMENT, () -> x.exact(0, 1, Check.types(1, 3)));
        Bridges.numbers(x, 0.5, 0.5);
        Check.dueThrow("the last does not", Check.NO_ELEMENT, () -> x.exact(0, 1, Check.types(3, 1)));
        Check.due("none was made", x.calls(), 0);
        x.exact(0, 1, 0);
        Check.due("the answer was not given before", x.given(), 9);
    }
}
