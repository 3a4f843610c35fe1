/** Promise 5: argument. */
public final class ArgumentTest {
    public static void main(String[] args) {
        Check.sentence("One more argument for the next call: how many there are", ArgumentTest::howMany);
        Check.sentence("for the next call", ArgumentTest::forTheNextCall);
        Check.sentence("IllegalArgumentException: there is no such kind", ArgumentTest::noSuchKind);
        Check.sentence("IllegalArgumentException: .. or the bits are not so", ArgumentTest::wrongBits);
        Check.sentence("(of no matter for undefined and null)", ArgumentTest::bitsOfNoMatter);
        Check.sentence("IllegalStateException: there are 4", ArgumentTest::four);
        Check.end();
    }

    private static void howMany() {
        HostBridge x = Bridges.oneObject();
        Check.due("the first", x.argument(Bridges.HOST, 0), 1);
        Check.due("the second", x.argument(Bridges.NUMBER, -1), 2);
        Check.due("the third", x.argument(Bridges.TEXT, 0), 3);
        Check.due("the fourth", x.argument(Bridges.UNDEFINED, 0), 4);
        int[] text = {40, 5, 0, 41};
        for (int i = 0; i < 4; i++) {
            Check.due("argument " + i + " in its place", x.weight(i, 4), text[i]);
        }
    }

    private static void forTheNextCall() {
        HostBridge x = Bridges.oneObject();
        x.method(0, 1, 2, Check.types(2, 0), 0);
        Bridges.numbers(x, 7);
        x.klass(-1);
        x.method(0, 2, 0, 0, 0);
        x.answer(3);
        x.argument(Bridges.TRUTH, 1);
        Check.due("both are there", x.call(0, 1), 0);
        Check.due("the first", x.converted(0, 0), 7);
        Check.due("the second", x.converted(0, 1), 1);
        Check.due("none for the one after", x.call(0, 2), 1);
        Check.due("again from one", x.argument(Bridges.NULL, 0), 1);
    }

    private static void noSuchKind() {
        HostBridge x = Bridges.oneObject();
        for (int kind : new int[] {-1, 7, 8, 256, Integer.MIN_VALUE, Integer.MAX_VALUE}) {
            Check.dueThrow("kind " + kind, Check.ILLEGAL_ARGUMENT, () -> x.argument(kind, 0));
        }
        Check.due("kind 0 after the refusals", x.argument(0, 0), 1);
        Check.due("kind 6", x.argument(6, 0), 2);
    }

    private static void wrongBits() {
        HostBridge x = Bridges.oneObject();
        int[] kinds = {2, 2, 2, 4, 4, 5, 5, 5, 6, 6};
        long[] bits = {-1, 2, 1L << 32, -1, Long.MIN_VALUE, -1, 1, 1L << 32, -1, Long.MIN_VALUE};
        for (int i = 0; i < kinds.length; i++) {
            int kind = kinds[i];
            long each = bits[i];
            Check.dueThrow("argument(" + kind + ", " + each + ")", Check.ILLEGAL_ARGUMENT,
                    () -> x.argument(kind, each));
        }
        Check.due("after the refusals", x.argument(Bridges.TRUTH, 1), 1);
    }

    private static void bitsOfNoMatter() {
        for (int kind : new int[] {Bridges.UNDEFINED, Bridges.NULL}) {
            HostBridge x = Bridges.oneObject();
            x.method(0, 1, 4, 0x05040405, 0);
            long[] bits = {-1, Long.MIN_VALUE, Long.MAX_VALUE, 2};
            for (int i = 0; i < 4; i++) {
                Check.due("kind " + kind + ", bits " + bits[i], x.argument(kind, bits[i]), i + 1);
                Check.due("its weight for value", x.weight(i, 5), 0);
            }
            x.call(0, 1);
            for (int i = 0; i < 4; i++) {
                Check.due("converted " + i, x.converted(0, i), kind);
            }
        }
    }

    private static void four() {
        HostBridge x = Bridges.oneObject();
        x.method(0, 1, 4, 0, 0);
        for (int i = 0; i < 4; i++) {
            x.argument(Bridges.TRUTH, i % 2);
        }
        Check.dueThrow("a fifth", Check.ILLEGAL_STATE, () -> x.argument(Bridges.TEXT, 0));
        Check.dueThrow("a fifth of no kind", Check.ILLEGAL_ARGUMENT, () -> x.argument(7, 0));
        Check.dueThrow("a fifth with wrong bits", Check.ILLEGAL_ARGUMENT, () -> x.argument(Bridges.TRUTH, 2));
        Check.due("the four are as they were", x.call(0, 1), 0);
        for (int i = 0; i < 4; i++) {
            Check.due("argument " + i, x.converted(0, i), i % 2);
        }
        for (int i = 0; i < 4; i++) {
            Check.due("four more after the call", x.argument(Bridges.NULL, 0), i + 1);
        }
        Check.dueThrow("and no fifth", Check.ILLEGAL_STATE, () -> x.argument(Bridges.NULL, 0));
    }
}
