/** Promise 3: method. */
public final class MethodsTest {
    public static void main(String[] args) {
        methodsAreNumberedForAllClasses();
        wrongInputsAreRefused();
        typesMustBeThere();
        sameNameAndParametersAreRefused();
        sixtyFourMethodsAreAll();
        Check.end();
    }

    private static HostBridge twoClasses() {
        HostBridge x = new HostBridge();
        x.klass(-1);
        x.klass(0);
        return x;
    }

    private static void methodsAreNumberedForAllClasses() {
        HostBridge x = twoClasses();
        Check.due("of class 0", x.method(0, 0, 0, 0, 0), 0);
        Check.due("of class 1", x.method(1, 999, 4, Check.types(7, 6, 5, 4), 7), 1);
        Check.due("of class 0 again", x.method(0, 1, 4, Check.types(0, 0, 0, 0), 5), 2);
    }

    private static void wrongInputsAreRefused() {
        HostBridge x = twoClasses();
        Check.dueThrow("class 2", Check.ILLEGAL_ARGUMENT, () -> x.method(2, 0, 0, 0, 0));
        Check.dueThrow("class -1", Check.ILLEGAL_ARGUMENT, () -> x.method(-1, 0, 0, 0, 0));
        Check.dueThrow("name -1", Check.ILLEGAL_ARGUMENT, () -> x.method(0, -1, 0, 0, 0));
        Check.dueThrow("name 1000", Check.ILLEGAL_ARGUMENT, () -> x.method(0, 1000, 0, 0, 0));
        Check.dueThrow("many -1", Check.ILLEGAL_ARGUMENT, () -> x.method(0, 0, -1, 0, 0));
        Check.dueThrow("many 5", Check.ILLEGAL_ARGUMENT, () -> x.method(0, 0, 5, 0, 0));
        Check.dueThrow("result 8", Check.ILLEGAL_ARGUMENT, () -> x.method(0, 0, 0, 0, 8));
        Check.dueThrow("result -1", Check.ILLEGAL_ARGUMENT, () -> x.method(0, 0, 0, 0, -1));
        Check.due("after the refusals", x.method(0, 0, 0, 0, 0), 0);
    }

    private static void typesMustBeThere() {
        HostBridge x = twoClasses();
        for (int i = 0; i < 4; i++) {
            int wrong = 8 << 8 * i;
            Check.dueThrow("type 8 at " + i, Check.ILLEGAL_ARGUMENT, () -> x.method(0, 0, 4, wrong, 0));
            int highest = 255 << 8 * i;
            Check.dueThrow("type 255 at " + i, Check.ILLEGAL_ARGUMENT, () -> x.method(0, 0, 4, highest, 0));
        }
        for (int i = 0; i < 4; i++) {
            int many = i;
            int above = 1 << 8 * i;
            Check.dueThrow("above " + many, Check.ILLEGAL_ARGUMENT, () -> x.method(0, 0, many, above, 0));
            int top = 1 << 31;
            Check.dueThrow("top bit, " + many, Check.ILLEGAL_ARGUMENT, () -> x.method(0, 0, many, top, 0));
        }
        Check.due("a class's own type", x.method(0, 0, 1, 7, 0), 0);
        x.klass(-1);
        Check.due("the type of a new class", x.method(0, 0, 1, 8, 8), 1);
    }

    private static void sameNameAndParametersAreRefused() {
        HostBridge x = twoClasses();
        x.method(0, 3, 2, Check.types(1, 2), 0);
        Check.dueThrow("the same", Check.ILLEGAL_STATE, () -> x.method(0, 3, 2, Check.types(1, 2), 0));
        Check.dueThrow("another result", Check.ILLEGAL_STATE, () -> x.method(0, 3, 2, Check.types(1, 2), 5));
        Check.dueThrow("the same, but no result", Check.ILLEGAL_ARGUMENT,
                () -> x.method(0, 3, 2, Check.types(1, 2), 9));
        Check.due("another order", x.method(0, 3, 2, Check.types(2, 1), 0), 1);
        Check.due("another name", x.method(0, 4, 2, Check.types(1, 2), 0), 2);
        Check.due("another class", x.method(1, 3, 2, Check.types(1, 2), 0), 3);
        for (int many = 0; many <= 4; many++) {
            Check.due("truths, " + many, x.method(0, 3, many, 0, 0), 4 + many);
        }
    }

    private static void sixtyFourMethodsAreAll() {
        HostBridge x = twoClasses();
        for (int i = 0; i < 64; i++) {
            Check.due("method " + i, x.method(i % 2, i, 0, 0, 0), i);
        }
        Check.dueThrow("method 65", Check.ILLEGAL_STATE, () -> x.method(0, 64, 0, 0, 0));
        Check.dueThrow("method 65, no name", Check.ILLEGAL_ARGUMENT, () -> x.method(0, 1000, 0, 0, 0));
        x.object(1);
        Check.due("the last method", x.call(0, 63), 63);
        Check.dueThrow("what was refused", Check.NO_ELEMENT, () -> x.call(0, 64));
    }
}
