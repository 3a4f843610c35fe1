import java.util.NoSuchElementException;

/**
 * The bridge from a script to host objects: classes with methods that bear the
 * same name are told, a script's call is given the one method whose parameters
 * its arguments fit best, and what is called with what is written down.
 */
public final class HostBridge {
    private static final int MOST_CLASSES = 16;
    private static final int MOST_METHODS = 64;
    private static final int MOST_OBJECTS = 64;
    private static final int MOST_PARAMETERS = 4;
    private static final int MOST_ANSWERS = 64;
    private static final int KEPT_CALLS = 64;
    private static final int NAMES = 1000;

    /** No class, no method, or the weight of what does not fit. */
    private static final int NONE = -1;

    /** What null is written down as where an object is due. */
    private static final int NULL_OBJECT = -1;

    private static final int TRUTH_TYPE = 0;
    private static final int INT_TYPE = 1;
    private static final int LONG_TYPE = 2;
    private static final int DOUBLE_TYPE = 3;
    private static final int FIRST_OBJECT_TYPE = 6;
    private static final int TYPE_BITS = 8;
    private static final int TYPE_MASK = 255;

    private static final int UNDEFINED = 0;
    private static final int NULL = 1;
    private static final int TRUTH = 2;
    private static final int NUMBER = 3;
    private static final int TEXT = 4;
    private static final int HOST_OBJECT = 5;
    private static final int OTHER_OBJECT = 6;

    private static final int LOOK_OBJECT = 0;
    private static final int LOOK_METHOD = 1;
    private static final int LOOK_ARGUMENTS = 2;

    private final World world;
    private final Methods methods;
    private final Arguments arguments;
    private final Choice choice;
    private final Diary diary;
    private final Answers answers;

    public HostBridge() {
        world = new World();
        methods = new Methods();
        arguments = new Arguments(world);
        choice = new Choice(world, methods, arguments);
        diary = new Diary();
        answers = new Answers();
    }

    public int klass(int parent) throws IllegalArgumentException, IllegalStateException {
        if (parent != NONE && !world.hasClass(parent)) {
            throw new IllegalArgumentException("there is no such parent");
        }
        if (world.classes >= MOST_CLASSES) {
            throw new IllegalStateException("there are 16 classes");
        }
        return world.addClass(parent);
    }

    public int method(int klass, int name, int many, int types, int result)
            throws IllegalArgumentException, IllegalStateException {
        if (!world.hasClass(klass)) {
            throw new IllegalArgumentException("there is no such class");
        }
        if (!isName(name)) {
            throw new IllegalArgumentException("there is no such name");
        }
        if (many < 0 || many > MOST_PARAMETERS) {
            throw new IllegalArgumentException("there is no such number of parameters");
        }
        // The result is looked at and not kept: no promise ever asks for it again.
        if (!world.hasTypes(many, types) || !world.hasType(result)) {
            throw new IllegalArgumentException("there is no such type");
        }
        if (methods.find(klass, name, many, types) != NONE) {
            throw new IllegalStateException("the class has this method");
        }
        if (methods.count >= MOST_METHODS) {
            throw new IllegalStateException("there are 64 methods");
        }
        return methods.add(klass, name, many, types);
    }

    public int object(int klass) throws IllegalArgumentException, IllegalStateException {
        if (!world.hasClass(klass)) {
            throw new IllegalArgumentException("there is no such class");
        }
        if (world.objects >= MOST_OBJECTS) {
            throw new IllegalStateException("there are 64 objects");
        }
        return world.addObject(klass);
    }

    public int argument(int kind, long bits) throws IllegalArgumentException, IllegalStateException {
        if (!isValue(kind, bits)) {
            throw new IllegalArgumentException("there is no such value");
        }
        if (arguments.count >= MOST_PARAMETERS) {
            throw new IllegalStateException("there are 4 arguments");
        }
        return arguments.add(kind, bits);
    }

    public int weight(int i, int type) throws IllegalArgumentException {
        if (i < 0 || i >= arguments.count) {
            throw new IllegalArgumentException("there is no such argument");
        }
        if (!world.hasType(type)) {
            throw new IllegalArgumentException("there is no such type");
        }
        return arguments.weightFor(i, type);
    }

    public int call(int object, int name)
            throws IllegalArgumentException, NoSuchElementException, IllegalStateException {
        int many = arguments.takeAll();
        if (!world.hasObject(object)) {
            throw new IllegalArgumentException("there is no such object");
        }
        if (!isName(name)) {
            throw new IllegalArgumentException("there is no such name");
        }
        choice.gather(world.classOf[object], name, many);
        if (choice.count == 0) {
            throw new NoSuchElementException("there are no candidates");
        }
        int best = choice.best(many);
        if (best == NONE) {
            throw new IllegalStateException("no candidate is the best");
        }
        writeDown(object, best);
        return best;
    }

    public int exact(int object, int name, int types)
            throws IllegalArgumentException, NoSuchElementException {
        int many = arguments.takeAll();
        if (!world.hasObject(object)) {
            throw new IllegalArgumentException("there is no such object");
        }
        if (!isName(name)) {
            throw new IllegalArgumentException("there is no such name");
        }
        if (!world.hasTypes(many, types)) {
            throw new IllegalArgumentException("there is no such type");
        }
        int found = choice.first(world.classOf[object], name, many, types);
        if (found == NONE) {
            throw new NoSuchElementException("there is no such method");
        }
        if (!arguments.fit(many, types)) {
            throw new NoSuchElementException("the arguments do not fit");
        }
        writeDown(object, found);
        return found;
    }

    public void answer(long bits) throws IllegalStateException {
        if (answers.count >= MOST_ANSWERS) {
            throw new IllegalStateException("there are 64 answers not given yet");
        }
        answers.add(bits);
    }

    public long given() throws IllegalStateException {
        if (diary.count == 0) {
            throw new IllegalStateException("there was no call");
        }
        return diary.latestGiven;
    }

    public int calls() {
        return diary.count;
    }

    public int look(int k, int what) throws IllegalArgumentException, IndexOutOfBoundsException {
        if (what < LOOK_OBJECT || what > LOOK_ARGUMENTS) {
            throw new IllegalArgumentException("there is no such what");
        }
        if (!diary.keeps(k)) {
            throw new IndexOutOfBoundsException("there is no such call, or it is not kept");
        }
        if (what == LOOK_OBJECT) {
            return diary.objectOf(k);
        }
        return what == LOOK_METHOD ? diary.methodOf(k) : diary.argumentsOf(k);
    }

    public long converted(int k, int i) throws IndexOutOfBoundsException {
        if (!diary.keeps(k)) {
            throw new IndexOutOfBoundsException("there is no such call, or it is not kept");
        }
        if (i < 0 || i >= diary.argumentsOf(k)) {
            throw new IndexOutOfBoundsException("there is no such argument");
        }
        return diary.valueOf(k, i);
    }

    private boolean isValue(int kind, long bits) {
        switch (kind) {
            case UNDEFINED:
            case NULL:
            case NUMBER:
                return true;
            case TRUTH:
                return bits == 0 || bits == 1;
            case TEXT:
            case OTHER_OBJECT:
                return bits >= 0;
            case HOST_OBJECT:
                return bits >= 0 && bits < world.objects;
            default:
                return false;
        }
    }

    private void writeDown(int object, int found) {
        int many = methods.sizes[found];
        int types = methods.types[found];
        diary.open(object, found, many);
        for (int i = 0; i < many; i++) {
            diary.setValue(i, arguments.convert(i, typeAt(types, many, i)));
        }
        diary.close(answers.next());
    }

    private static boolean isName(int name) {
        return name >= 0 && name < NAMES;
    }

    private static int typeAt(int types, int many, int i) {
        return (types >>> (TYPE_BITS * (many - 1 - i))) & TYPE_MASK;
    }

    /** The classes with their parents, and the objects with their classes. */
    private static final class World {
        private final int[] parents = new int[MOST_CLASSES];
        private final int[] classOf = new int[MOST_OBJECTS];
        private int classes;
        private int objects;

        boolean hasClass(int klass) {
            return klass >= 0 && klass < classes;
        }

        boolean hasObject(int object) {
            return object >= 0 && object < objects;
        }

        boolean hasType(int type) {
            return type >= 0 && type < FIRST_OBJECT_TYPE + classes;
        }

        boolean hasTypes(int many, int types) {
            // Java shifts by 32 as by 0, and all four bytes used leave none above to look at.
            if (many < MOST_PARAMETERS && (types >>> (TYPE_BITS * many)) != 0) {
                return false;
            }
            for (int i = 0; i < many; i++) {
                if (!hasType(typeAt(types, many, i))) {
                    return false;
                }
            }
            return true;
        }

        int addClass(int parent) {
            parents[classes] = parent;
            classes++;
            return classes - 1;
        }

        int addObject(int klass) {
            classOf[objects] = klass;
            objects++;
            return objects - 1;
        }

        /** How far ancestor comes behind klass in its line, or NONE. */
        int distance(int klass, int ancestor) {
            int at = klass;
            for (int steps = 0; steps < MOST_CLASSES && at != NONE; steps++) {
                if (at == ancestor) {
                    return steps;
                }
                at = parents[at];
            }
            return NONE;
        }
    }

    /** The methods of all classes, by their numbers. */
    private static final class Methods {
        private final int[] homes = new int[MOST_METHODS];
        private final int[] names = new int[MOST_METHODS];
        private final int[] sizes = new int[MOST_METHODS];
        private final int[] types = new int[MOST_METHODS];
        private int count;

        int add(int klass, int name, int many, int parameters) {
            homes[count] = klass;
            names[count] = name;
            sizes[count] = many;
            types[count] = parameters;
            count++;
            return count - 1;
        }

        boolean isCalled(int m, int klass, int name, int many) {
            return homes[m] == klass && names[m] == name && sizes[m] == many;
        }

        int find(int klass, int name, int many, int parameters) {
            for (int m = 0; m < count; m++) {
                if (isCalled(m, klass, name, many) && types[m] == parameters) {
                    return m;
                }
            }
            return NONE;
        }
    }

    /** The arguments for the next call. */
    private static final class Arguments {
        /** Sorts of values are the kinds, NUMBER being one that is no LONG, and these two. */
        private static final int INT_NUMBER = 7;
        private static final int LONG_NUMBER = 8;

        private static final int COLUMNS = 7;
        private static final int OBJECT_COLUMN = 6;

        /** The document's table: a row for each sort, with columns for the types. */
        private static final int[] WEIGHTS = {
            // truth, int, long, double, text, value, an object
            -1, -1, -1, -1, 41, 0, -1, // undefined
            -1, -1, -1, -1, 2, 0, 1, // null
            0, -1, -1, -1, 3, 2, -1, // truth
            6, -1, -1, 0, 5, 4, -1, // another number
            -1, -1, -1, -1, 0, 2, -1, // text
            -1, -1, -1, -1, 40, 20, -1, // host object, whose line tells the last one
            -1, -1, -1, -1, 40, 0, -1, // another object
            6, 0, 1, 2, 5, 4, -1, // an INT
            6, -1, 0, 1, 5, 4, -1, // a LONG that is no INT
        };

        private final World world;
        private final int[] kinds = new int[MOST_PARAMETERS];
        private final int[] sorts = new int[MOST_PARAMETERS];
        private final long[] bits = new long[MOST_PARAMETERS];
        private int count;

        Arguments(World world) {
            this.world = world;
        }

        int add(int kind, long valueBits) {
            kinds[count] = kind;
            sorts[count] = sortOf(kind, valueBits);
            bits[count] = valueBits;
            count++;
            return count;
        }

        private static int sortOf(int kind, long valueBits) {
            if (kind != NUMBER) {
                return kind;
            }
            if (Numbers.isInt(valueBits)) {
                return INT_NUMBER;
            }
            return Numbers.isLong(valueBits) ? LONG_NUMBER : NUMBER;
        }

        /**
         * Lets go of the arguments before anything can throw. Their rows stay
         * as they are until the next add, so the call under way still reads them.
         */
        int takeAll() {
            int taken = count;
            count = 0;
            return taken;
        }

        boolean fit(int many, int types) {
            for (int i = 0; i < many; i++) {
                if (weightFor(i, typeAt(types, many, i)) == NONE) {
                    return false;
                }
            }
            return true;
        }

        int weightFor(int i, int type) {
            if (type < FIRST_OBJECT_TYPE) {
                return WEIGHTS[sorts[i] * COLUMNS + type];
            }
            if (kinds[i] == HOST_OBJECT) {
                return world.distance(world.classOf[(int) bits[i]], type - FIRST_OBJECT_TYPE);
            }
            return WEIGHTS[sorts[i] * COLUMNS + OBJECT_COLUMN];
        }

        /** Argument i, which fits the type, as it is written down. */
        long convert(int i, int type) {
            if (type == TRUTH_TYPE) {
                return kinds[i] == NUMBER ? Numbers.truthOf(bits[i]) : bits[i];
            }
            if (type == INT_TYPE || type == LONG_TYPE) {
                return Numbers.wholeOf(bits[i]);
            }
            if (type == DOUBLE_TYPE) {
                return bits[i];
            }
            if (type < FIRST_OBJECT_TYPE) {
                return kinds[i];
            }
            return kinds[i] == NULL ? NULL_OBJECT : bits[i];
        }
    }

    /** What a script's number is, read from the 64 bits of its double. */
    private static final class Numbers {
        private static final int FRACTION_BITS = 52;
        private static final int EXPONENT_MASK = 0x7FF;
        private static final int EXPONENT_BIAS = 1023;
        private static final int LONG_POWER = 53;
        private static final long HIDDEN_ONE = 1L << FRACTION_BITS;
        private static final long INFINITY = 0x7FF0000000000000L;
        private static final long MINUS_ZERO = 1L << 63;

        static boolean isInt(long bits) {
            if (bits == MINUS_ZERO || !isLong(bits)) {
                return false;
            }
            long whole = wholeOf(bits);
            return whole == (int) whole;
        }

        static boolean isLong(long bits) {
            if (isZero(bits)) {
                return true;
            }
            int power = powerOf(bits);
            if (power < 0 || power > LONG_POWER) {
                return false;
            }
            if (power == LONG_POWER) {
                return fractionOf(bits) == 0;
            }
            long behindPoint = (1L << (FRACTION_BITS - power)) - 1;
            return (fractionOf(bits) & behindPoint) == 0;
        }

        /** The whole number of a LONG. */
        static long wholeOf(long bits) {
            if (isZero(bits)) {
                return 0;
            }
            long digits = fractionOf(bits) | HIDDEN_ONE;
            int power = powerOf(bits);
            long size = power > FRACTION_BITS
                    ? digits << (power - FRACTION_BITS)
                    : digits >>> (FRACTION_BITS - power);
            return bits < 0 ? -size : size;
        }

        static long truthOf(long bits) {
            return isZero(bits) || isNan(bits) ? 0 : 1;
        }

        private static boolean isZero(long bits) {
            return withoutSign(bits) == 0;
        }

        private static boolean isNan(long bits) {
            return withoutSign(bits) > INFINITY;
        }

        private static long withoutSign(long bits) {
            return bits & ~MINUS_ZERO;
        }

        private static int powerOf(long bits) {
            return (int) ((bits >>> FRACTION_BITS) & EXPONENT_MASK) - EXPONENT_BIAS;
        }

        private static long fractionOf(long bits) {
            return bits & (HIDDEN_ONE - 1);
        }
    }

    /** Finds the method that a call is given. */
    private static final class Choice {
        private final World world;
        private final Methods methods;
        private final Arguments arguments;
        private final int[] candidates = new int[MOST_METHODS];
        private final int[] lowest = new int[MOST_PARAMETERS];
        private int count;

        Choice(World world, Methods methods, Arguments arguments) {
            this.world = world;
            this.methods = methods;
            this.arguments = arguments;
        }

        /** The method with just these types that comes first in the line, or NONE. */
        int first(int klass, int name, int many, int types) {
            int at = klass;
            for (int steps = 0; steps < MOST_CLASSES && at != NONE; steps++) {
                int found = methods.find(at, name, many, types);
                if (found != NONE) {
                    return found;
                }
                at = world.parents[at];
            }
            return NONE;
        }

        void gather(int klass, int name, int many) {
            count = 0;
            int at = klass;
            for (int steps = 0; steps < MOST_CLASSES && at != NONE; steps++) {
                gatherFrom(at, name, many);
                at = world.parents[at];
            }
        }

        private void gatherFrom(int klass, int name, int many) {
            for (int m = 0; m < methods.count && count < MOST_METHODS; m++) {
                if (methods.isCalled(m, klass, name, many)
                        && arguments.fit(many, methods.types[m])
                        && !isHidden(m)) {
                    candidates[count] = m;
                    count++;
                }
            }
        }

        /**
         * The line is walked from its front, and what hides a method that fits
         * has the same types, so it fits too and is a candidate already.
         */
        private boolean isHidden(int m) {
            for (int c = 0; c < count; c++) {
                if (methods.types[candidates[c]] == methods.types[m]) {
                    return true;
                }
            }
            return false;
        }

        /** The only candidate that has the lowest weight for every argument, or NONE. */
        int best(int many) {
            for (int i = 0; i < many; i++) {
                lowest[i] = lowestWeight(i, many);
            }
            int best = NONE;
            for (int c = 0; c < count; c++) {
                if (isLowest(candidates[c], many)) {
                    if (best != NONE) {
                        return NONE;
                    }
                    best = candidates[c];
                }
            }
            return best;
        }

        private int lowestWeight(int i, int many) {
            int low = weightIn(candidates[0], i, many);
            for (int c = 1; c < count; c++) {
                low = Math.min(low, weightIn(candidates[c], i, many));
            }
            return low;
        }

        private boolean isLowest(int m, int many) {
            for (int i = 0; i < many; i++) {
                if (weightIn(m, i, many) > lowest[i]) {
                    return false;
                }
            }
            return true;
        }

        private int weightIn(int m, int i, int many) {
            return arguments.weightFor(i, typeAt(methods.types[m], many, i));
        }
    }

    /** The calls that were made; a row is used again when its call is no longer kept. */
    private static final class Diary {
        private final int[] objects = new int[KEPT_CALLS];
        private final int[] methods = new int[KEPT_CALLS];
        private final int[] sizes = new int[KEPT_CALLS];
        private final long[] values = new long[KEPT_CALLS * MOST_PARAMETERS];
        private long latestGiven;
        private int count;

        void open(int object, int method, int many) {
            int row = rowOf(count);
            objects[row] = object;
            methods[row] = method;
            sizes[row] = many;
        }

        void setValue(int i, long value) {
            values[rowOf(count) * MOST_PARAMETERS + i] = value;
        }

        void close(long given) {
            latestGiven = given;
            count++;
        }

        boolean keeps(int k) {
            return k >= 0 && k < count && count - k <= KEPT_CALLS;
        }

        int objectOf(int k) {
            return objects[rowOf(k)];
        }

        int methodOf(int k) {
            return methods[rowOf(k)];
        }

        int argumentsOf(int k) {
            return sizes[rowOf(k)];
        }

        long valueOf(int k, int i) {
            return values[rowOf(k) * MOST_PARAMETERS + i];
        }

        private static int rowOf(int k) {
            return Math.floorMod(k, KEPT_CALLS);
        }
    }

    /** The host's answers that were not given yet, the oldest first. */
    private static final class Answers {
        private final long[] waiting = new long[MOST_ANSWERS];
        private int start;
        private int count;

        void add(long bits) {
            waiting[(start + count) % MOST_ANSWERS] = bits;
            count++;
        }

        long next() {
            if (count == 0) {
                return 0;
            }
            long bits = waiting[start];
            start = (start + 1) % MOST_ANSWERS;
            count--;
            return bits;
        }
    }
}
