/** Objects to begin a test with. An object may be used for 512 calls, so each makes few. */
final class Bridges {
    static final int UNDEFINED = 0;
    static final int NULL = 1;
    static final int TRUTH = 2;
    static final int NUMBER = 3;
    static final int TEXT = 4;
    static final int HOST = 5;
    static final int OTHER = 6;

    private Bridges() {
    }

    /** Class 0 and object 0 of it. */
    static HostBridge oneObject() {
        HostBridge x = new HostBridge();
        x.klass(-1);
        x.object(0);
        return x;
    }

    /** As oneObject, and method 0 with the name 0 and no parameters. */
    static HostBridge oneMethod() {
        HostBridge x = oneObject();
        x.method(0, 0, 0, 0, 0);
        return x;
    }

    /** Classes of one line, each the parent of the next one. */
    static HostBridge line(int many) {
        HostBridge x = new HostBridge();
        for (int i = 0; i < many; i++) {
            x.klass(i - 1);
        }
        return x;
    }

    /** Classes 0, 1 of 0, 2 of 1, 3 of 0, 4 without a parent, and of each the object of its number. */
    static HostBridge family() {
        HostBridge x = new HostBridge();
        for (int parent : new int[] {-1, 0, 1, 0, -1}) {
            x.object(x.klass(parent));
        }
        return x;
    }

    /** The family, and of class 0 for each type a method with its name and it as only parameter. */
    static HostBridge aNameForEachType() {
        HostBridge x = family();
        for (int type = 0; type < 11; type++) {
            x.method(0, type, 1, type, 0);
        }
        return x;
    }

    static void numbers(HostBridge x, double... each) {
        for (double number : each) {
            x.argument(NUMBER, Check.bits(number));
        }
    }

    static void nulls(HostBridge x, int many) {
        for (int i = 0; i < many; i++) {
            x.argument(NULL, 0);
        }
    }
}
