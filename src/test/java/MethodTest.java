/** Promise 3: method. */
public final class MethodTest {
    public static void main(String[] args) {
        Check.sentence("One more method: its number, counted for all classes", MethodTest::numbers);
        Check.sentence("types: a byte for each parameter, the last one's lowest", MethodTest::bytes);
        Check.sentence("zeros above", MethodTest::zerosAbove);
        Check.sentence("IllegalArgumentException: there is no such class", MethodTest::noSuchClass);
        Check.sentence("IllegalArgumentException: there is no such .. name", MethodTest::noSuchName);
        Check.sentence("IllegalArgumentException: there is no such .. number of parameters", MethodTest::noSuchMany);
        Check.sentence("IllegalArgumentException: there is no such .. type", MethodTest::noSuchType);
        Check.sentence("IllegalArgumentException: there is no such .. result", MethodTest::noSuchResult);
        Check.sentence("IllegalStateException: the class has one of the name with these parameters",
                MethodTest::hasOne);
        Check.sentence("IllegalStateException: .. or there are 64", MethodTest::sixtyFour);
        Check.end();
    }

    private static void refused(String what, HostBridge x, int... p) {
        Check.dueThrow(what, Check.ILLEGAL_ARGUMENT, () -> x.method(p[0], p[1], p[2], p[3], p[4]));
    }

    private static void numbers() {
        HostBridge x = Bridges.family();
        for (int i = 0; i < 20; i++) {
            Check.due("method " + i, x.method(i * 3 % 5, i, i % 5, 0, i % 11), i);
        }
    }

    private static void bytes() {
        HostBridge x = Bridges.family();
        // Truth, long, text and an object: each place has what fits it alone.
        x.method(0, 1, 4, Check.types(0, 2, 4, 7), 0);
        x.argument(Bridges.TRUTH, 1);
        Bridges.numbers(x, 8);
        x.argument(Bridges.TEXT, 9);
        x.argument(Bridges.HOST, 2);
        Check.due("in the order of the parameters", x.call(0, 1), 0);
        long[] due = {1, 8, 4, 2};
        for (int i = 0; i < 4; i++) {
            Check.due("argument " + i, x.converted(0, i), due[i]);
        }
        x.argument(Bridges.HOST, 2);
        x.argument(Bridges.TEXT, 9);
        Bridges.numbers(x, 8);
        x.argument(Bridges.TRUTH, 1);
        Check.dueThrow("in the order turned round", Check.NO_ELEMENT, () -> x.call(0, 1));
        for (int many = 1; many <= 4; many++) {
            HostBridge y = Bridges.oneObject();
            y.method(0, 1, many, 2, 0);
            for (int i = 1; i < many; i++) {
                y.argument(Bridges.TRUTH, 1);
            }
            Bridges.numbers(y, 8);
            y.call(0, 1);
            Check.due("the last of " + many, y.converted(0, many - 1), 8);
        }
    }

    private static void zerosAbove() {
        HostBridge x = Bridges.oneObject();
        for (int many = 0; many < 4; many++) {
            for (int bit = 8 * many; bit < 32; bit++) {
                refused("bit " + bit + " for " + many, x, 0, 0, many, 1 << bit, 0);
            }
            refused("all bits for " + many, x, 0, 0, many, -1, 0);
        }
        for (int many = 0; many <= 4; many++) {
            Check.due("zeros for " + many, x.method(0, 0, many, 0, 0), many);
        }
    }

    private static void noSuchClass() {
        HostBridge x = Bridges.line(3);
        refused("class -1", x, -1, 0, 0, 0, 0);
        refused("class 3", x, 3, 0, 0, 0, 0);
        for (int klass : Check.FAR_OFF) {
            refused("class " + klass, x, klass, 0, 0, 0, 0);
        }
        x.klass(-1);
        Check.due("class 3 when it is there", x.method(3, 0, 0, 0, 0), 0);
        HostBridge full = Bridges.line(16);
        Check.due("class 15", full.method(15, 0, 0, 0, 0), 0);
        refused("class 16", full, 16, 0, 0, 0, 0);
    }

    private static void noSuchName() {
        HostBridge x = Bridges.oneObject();
        for (int name : new int[] {-1, 1000, 1001, Integer.MIN_VALUE, Integer.MAX_VALUE}) {
            refused("name " + name, x, 0, name, 0, 0, 0);
        }
        Check.due("name 0", x.method(0, 0, 0, 0, 0), 0);
        Check.due("name 999", x.method(0, 999, 0, 0, 0), 1);
    }

    private static void noSuchMany() {
        HostBridge x = Bridges.oneObject();
        refused("-1 parameters", x, 0, 0, -1, 0, 0);
        refused("5 parameters", x, 0, 0, 5, 0, 0);
        refused("5 parameters, four types", x, 0, 0, 5, 0x01010101, 0);
        for (int many : Check.FAR_OFF) {
            refused(many + " parameters", x, 0, 0, many, 0, 0);
        }
        Check.due("after the refusals", x.method(0, 0, 0, 0, 0), 0);
    }

    private static void noSuchType() {
        HostBridge x = Bridges.oneObject();
        for (int i = 0; i < 4; i++) {
            for (int type : new int[] {7, 22, 127, 128, 255}) {
                refused("type " + type + " at " + i, x, 0, 0, 4, type << 8 * i, 0);
            }
        }
        Check.due("the last types", x.method(0, 0, 4, 0x06060606, 0), 0);
        x.klass(-1);
        Check.due("type 7 when it is there", x.method(0, 0, 4, 0x07060606, 0), 1);
        refused("type 8", x, 0, 0, 4, 0x08060606, 0);
    }

    private static void noSuchResult() {
        HostBridge x = Bridges.oneObject();
        refused("result -1", x, 0, 0, 0, 0, -1);
        refused("result 7", x, 0, 0, 0, 0, 7);
        refused("result 256", x, 0, 0, 0, 0, 256);
        for (int result : Check.FAR_OFF) {
            refused("result " + result, x, 0, 0, 0, 0, result);
        }
        Check.due("result 6", x.method(0, 0, 0, 0, 6), 0);
        x.klass(-1);
        Check.due("result 7 when it is there", x.method(0, 1, 0, 0, 7), 1);
    }

    private static void hasOne() {
        HostBridge x = Bridges.line(2);
        x.method(0, 3, 2, Check.types(1, 2), 0);
        Check.dueThrow("the same", Check.ILLEGAL_STATE, () -> x.method(0, 3, 2, Check.types(1, 2), 0));
        Check.dueThrow("another result", Check.ILLEGAL_STATE, () -> x.method(0, 3, 2, Check.types(1, 2), 7));
        refused("the same, and no such result", x, 0, 3, 2, Check.types(1, 2), 8);
        Check.due("the parent's one is no matter", x.method(1, 3, 2, Check.types(1, 2), 0), 1);
        Check.dueThrow("now the child's is", Check.ILLEGAL_STATE, () -> x.method(1, 3, 2, Check.types(1, 2), 0));
        Check.due("the refused ones are not counted", x.method(0, 3, 2, Check.types(1, 1), 0), 2);
    }

    private static void sixtyFour() {
        HostBridge x = Bridges.line(16);
        for (int i = 0; i < 64; i++) {
            Check.due("method " + i, x.method(i % 16, i, 0, 0, 0), i);
        }
        for (int klass = 0; klass < 16; klass++) {
            int each = klass;
            Check.dueThrow("a 65th of class " + klass, Check.ILLEGAL_STATE, () -> x.method(each, 64, 0, 0, 0));
        }
        Check.dueThrow("one that is there", Check.ILLEGAL_STATE, () -> x.method(15, 63, 0, 0, 0));
        refused("a 65th, and no such name", x, 0, 1000, 0, 0, 0);
        x.object(15);
        Check.due("the first method", x.call(0, 0), 0);
        Check.due("the last method", x.call(0, 63), 63);
        Check.dueThrow("what was refused", Check.NO_ELEMENT, () -> x.call(0, 64));
    }
}
