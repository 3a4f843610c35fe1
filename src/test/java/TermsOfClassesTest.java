/** The document's "Terms" of classes, objects, types and methods, sentence by sentence. */
public final class TermsOfClassesTest {
    public static void main(String[] args) {
        Check.sentence("CLASSES 0, 1, .., at most 16", TermsOfClassesTest::sixteenClasses);
        Check.sentence("each perhaps with a PARENT of a lower number", TermsOfClassesTest::lowerParents);
        Check.sentence("a class's LINE is it, its parent, that one's parent, and so on", TermsOfClassesTest::lines);
        Check.sentence("OBJECTS 0, 1, .., at most 64", TermsOfClassesTest::sixtyFourObjects);
        Check.sentence("OBJECTS .. are of a class", TermsOfClassesTest::classesOfObjects);
        Check.sentence("TYPES: 0 truth, .., 5 value", TermsOfClassesTest::sixTypes);
        Check.sentence("6 + c, an object of class c", TermsOfClassesTest::typesOfClasses);
        Check.sentence("(or one in whose line c is)", TermsOfClassesTest::typesOfLines);
        Check.sentence("a NAME (0 .. 999)", TermsOfClassesTest::names);
        Check.sentence("at most 4 PARAMETERS", TermsOfClassesTest::fourParameters);
        Check.sentence("PARAMETERS, each of a type", TermsOfClassesTest::typesOfParameters);
        Check.sentence("and a RESULT, a type", TermsOfClassesTest::results);
        Check.sentence("Of a class no two methods have the same name and parameters", TermsOfClassesTest::noTwo);
        Check.sentence("An object's methods are those of its class's line", TermsOfClassesTest::methodsOfLines);
        Check.sentence("of several .. that of the class that comes first in the line (the others are HIDDEN)",
                TermsOfClassesTest::hidden);
        Check.end();
    }

    private static void sixteenClasses() {
        HostBridge x = new HostBridge();
        for (int i = 0; i < 16; i++) {
            Check.due("class " + i, x.klass(-1), i);
        }
        Check.dueThrow("a class 16", Check.ILLEGAL_STATE, () -> x.klass(-1));
        Check.due("an object of class 15", x.object(15), 0);
        Check.dueThrow("an object of class 16", Check.ILLEGAL_ARGUMENT, () -> x.object(16));
    }

    private static void lowerParents() {
        HostBridge x = new HostBridge();
        for (int i = 0; i < 16; i++) {
            int own = i;
            Check.dueThrow("its own number " + i, Check.ILLEGAL_ARGUMENT, () -> x.klass(own));
            Check.dueThrow("a higher number than " + i, Check.ILLEGAL_ARGUMENT, () -> x.klass(own + 1));
            Check.due("no parent, or the number just below", x.klass(i - 1), i);
        }
    }

    private static void lines() {
        HostBridge longest = Bridges.line(16);
        longest.argument(Bridges.HOST, longest.object(15));
        for (int c = 0; c < 16; c++) {
            Check.due("class " + c + " in the longest line", longest.weight(0, 6 + c), 15 - c);
        }
        HostBridge alone = new HostBridge();
        alone.klass(-1);
        alone.klass(-1);
        alone.klass(1);
        alone.argument(Bridges.HOST, alone.object(1));
        Check.due("a class without a parent is in its line", alone.weight(0, 7), 0);
        Check.due("a class before it is not", alone.weight(0, 6), -1);
        Check.due("its child is not", alone.weight(0, 8), -1);
    }

    private static void sixtyFourObjects() {
        HostBridge x = new HostBridge();
        x.klass(-1);
        for (int i = 0; i < 64; i++) {
            Check.due("object " + i, x.object(0), i);
        }
        Check.dueThrow("an object 64", Check.ILLEGAL_STATE, () -> x.object(0));
        Check.due("object 63 as an argument", x.argument(Bridges.HOST, 63), 1);
        Check.dueThrow("object 64 as an argument", Check.ILLEGAL_ARGUMENT, () -> x.argument(Bridges.HOST, 64));
    }

    private static void classesOfObjects() {
        HostBridge x = new HostBridge();
        for (int i = 0; i < 16; i++) {
            x.klass(-1);
        }
        for (int i = 0; i < 64; i++) {
            x.object(i % 16);
        }
        x.method(0, 0, 0, 0, 0);
        for (int i = 0; i < 64; i++) {
            x.argument(Bridges.HOST, i);
            Check.due("object " + i + " is of its class", x.weight(0, 6 + i % 16), 0);
            Check.due("object " + i + " is not of the next one", x.weight(0, 6 + (i + 1) % 16), -1);
            Check.dueThrow("no method takes it", Check.NO_ELEMENT, () -> x.call(63, 0));
        }
    }

    private static void sixTypes() {
        HostBridge x = new HostBridge();
        x.argument(Bridges.NULL, 0);
        int[] due = {-1, -1, -1, -1, 2, 0};
        for (int type = 0; type < 6; type++) {
            Check.due("type " + type + " without classes", x.weight(0, type), due[type]);
        }
        Check.dueThrow("type -1", Check.ILLEGAL_ARGUMENT, () -> x.weight(0, -1));
        Check.dueThrow("type 6 without classes", Check.ILLEGAL_ARGUMENT, () -> x.weight(0, 6));
    }

    private static void typesOfClasses() {
        HostBridge x = new HostBridge();
        x.argument(Bridges.NULL, 0);
        for (int c = 0; c < 16; c++) {
            int type = 6 + c;
            Check.dueThrow("type " + type + " too early", Check.ILLEGAL_ARGUMENT, () -> x.weight(0, type));
            x.klass(-1);
            Check.due("type " + type, x.weight(0, type), 1);
            Check.dueThrow("parameter " + (type + 1) + " too early", Check.ILLEGAL_ARGUMENT,
                    () -> x.method(0, 0, 1, type + 1, 0));
            Check.dueThrow("result " + (type + 1) + " too early", Check.ILLEGAL_ARGUMENT,
                    () -> x.method(0, 0, 0, 0, type + 1));
            Check.due("parameter and result " + type, x.method(0, 0, 1, type, type), c);
        }
        x.object(0);
        Check.due("type 21 in an exact call", x.exact(0, 0, 21), 15);
        x.argument(Bridges.NULL, 0);
        Check.dueThrow("type 22", Check.ILLEGAL_ARGUMENT, () -> x.weight(0, 22));
        Check.dueThrow("type 22 in an exact call", Check.ILLEGAL_ARGUMENT, () -> x.exact(0, 0, 22));
    }

    private static void typesOfLines() {
        HostBridge x = Bridges.aNameForEachType();
        for (int c = 0; c < 3; c++) {
            x.argument(Bridges.HOST, 2);
            Check.due("object 2 as one of class " + c, x.call(0, 6 + c), 6 + c);
        }
        for (int c = 3; c < 5; c++) {
            int name = 6 + c;
            x.argument(Bridges.HOST, 2);
            Check.dueThrow("object 2 as one of class " + c, Check.NO_ELEMENT, () -> x.call(0, name));
        }
        x.argument(Bridges.HOST, 0);
        Check.dueThrow("object 0 as one of its child", Check.NO_ELEMENT, () -> x.call(0, 7));
    }

    private static void names() {
        HostBridge x = Bridges.oneObject();
        Check.due("method of name 0", x.method(0, 0, 0, 0, 0), 0);
        Check.due("method of name 999", x.method(0, 999, 0, 0, 0), 1);
        Check.due("call of name 0", x.call(0, 0), 0);
        Check.due("call of name 999", x.call(0, 999), 1);
        Check.due("exact call of name 0", x.exact(0, 0, 0), 0);
        Check.due("exact call of name 999", x.exact(0, 999, 0), 1);
        for (int name : new int[] {-1, 1000, Integer.MIN_VALUE, Integer.MAX_VALUE}) {
            Check.dueThrow("method of name " + name, Check.ILLEGAL_ARGUMENT, () -> x.method(0, name, 0, 0, 0));
            Check.dueThrow("call of name " + name, Check.ILLEGAL_ARGUMENT, () -> x.call(0, name));
            Check.dueThrow("exact call of name " + name, Check.ILLEGAL_ARGUMENT, () -> x.exact(0, name, 0));
        }
    }

    private static void fourParameters() {
        HostBridge x = Bridges.oneObject();
        for (int many = 0; many <= 4; many++) {
            Check.due(many + " parameters", x.method(0, 0, many, 0, 0), many);
        }
        for (int many : new int[] {-1, 5, Integer.MIN_VALUE, Integer.MAX_VALUE}) {
            Check.dueThrow(many + " parameters", Check.ILLEGAL_ARGUMENT, () -> x.method(0, 0, many, 0, 0));
        }
        for (int i = 0; i < 4; i++) {
            x.argument(Bridges.TRUTH, 1);
        }
        Check.due("a call with four", x.call(0, 0), 4);
        Check.due("a call with none", x.call(0, 0), 0);
    }

    private static void typesOfParameters() {
        HostBridge x = Bridges.oneObject();
        for (int many = 1; many <= 4; many++) {
            for (int i = 0; i < many; i++) {
                int parameters = many;
                int last = 6 << 8 * i;
                x.method(0, 0, parameters, last, 0);
                for (int type : new int[] {7, 128, 255}) {
                    int wrong = type << 8 * i;
                    Check.dueThrow("type " + type + " at " + i + " of " + many, Check.ILLEGAL_ARGUMENT,
                            () -> x.method(0, 0, parameters, wrong, 0));
                }
            }
        }
    }

    private static void results() {
        HostBridge x = Bridges.oneObject();
        for (int result = 0; result < 7; result++) {
            Check.due("result " + result, x.method(0, result, 0, 0, result), result);
        }
        for (int result : new int[] {-1, 7, 255, 256, Integer.MIN_VALUE, Integer.MAX_VALUE}) {
            Check.dueThrow("result " + result, Check.ILLEGAL_ARGUMENT, () -> x.method(0, 9, 0, 0, result));
        }
    }

    private static void noTwo() {
        HostBridge x = Bridges.line(2);
        x.method(0, 3, 2, Check.types(1, 2), 0);
        Check.dueThrow("the same", Check.ILLEGAL_STATE, () -> x.method(0, 3, 2, Check.types(1, 2), 0));
        Check.dueThrow("another result", Check.ILLEGAL_STATE, () -> x.method(0, 3, 2, Check.types(1, 2), 5));
        Check.due("another order", x.method(0, 3, 2, Check.types(2, 1), 0), 1);
        Check.due("another name", x.method(0, 4, 2, Check.types(1, 2), 0), 2);
        Check.due("another class", x.method(1, 3, 2, Check.types(1, 2), 0), 3);
        for (int many = 0; many <= 4; many++) {
            Check.due("truths, " + many, x.method(0, 3, many, 0, 0), 4 + many);
        }
        for (int many = 0; many <= 4; many++) {
            int again = many;
            Check.dueThrow("truths again, " + many, Check.ILLEGAL_STATE, () -> x.method(0, 3, again, 0, 0));
        }
    }

    private static void methodsOfLines() {
        HostBridge x = Bridges.family();
        for (int c = 0; c < 5; c++) {
            x.method(c, c, 0, 0, 0);
        }
        for (int c = 0; c < 3; c++) {
            Check.due("a call of a method of class " + c, x.call(2, c), c);
            Check.due("an exact one", x.exact(2, c, 0), c);
        }
        for (int c = 3; c < 5; c++) {
            int name = c;
            Check.dueThrow("one outside the line", Check.NO_ELEMENT, () -> x.call(2, name));
            Check.dueThrow("an exact one outside the line", Check.NO_ELEMENT, () -> x.exact(2, name, 0));
        }
        Check.dueThrow("a child's method", Check.NO_ELEMENT, () -> x.call(0, 1));
        Check.dueThrow("a child's method exactly", Check.NO_ELEMENT, () -> x.exact(0, 1, 0));
        HostBridge longest = Bridges.line(16);
        longest.object(15);
        longest.method(0, 1, 0, 0, 0);
        Check.due("the end of the longest line", longest.call(0, 1), 0);
        Check.due("the end of the longest line exactly", longest.exact(0, 1, 0), 0);
    }

    private static void hidden() {
        HostBridge x = Bridges.family();
        // The nearest class is told first here and last below: numbers must not matter.
        x.method(2, 1, 1, 1, 0);
        x.method(0, 1, 1, 1, 0);
        x.method(1, 1, 1, 1, 0);
        int[] due = {1, 2, 0, 1};
        for (int i = 0; i < 4; i++) {
            Bridges.numbers(x, 0);
            Check.due("a call of object " + i, x.call(i, 1), due[i]);
            Bridges.numbers(x, 0);
            Check.due("an exact call of object " + i, x.exact(i, 1, 1), due[i]);
        }
        x.method(0, 1, 1, 0, 0);
        x.argument(Bridges.TRUTH, 0);
        Check.due("not hidden: other parameters", x.call(2, 1), 3);
        x.method(2, 2, 1, 1, 0);
        Bridges.numbers(x, 0);
        Check.due("not hidden: another name", x.call(1, 1), 2);

        HostBridge longest = Bridges.line(16);
        longest.object(15);
        for (int c = 0; c < 16; c++) {
            longest.method(c, 1, 0, 0, 0);
            Check.due("one nearer, " + c, longest.call(0, 1), c);
            Check.due("one nearer exactly, " + c, longest.exact(0, 1, 0), c);
        }
    }
}
