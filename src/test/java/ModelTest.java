import java.util.ArrayDeque;
import java.util.ArrayList;
import java.util.Arrays;
import java.util.List;
import java.util.NoSuchElementException;
import java.util.Random;

/**
 * Random runs on HostBridge and on a model that is written another way: the
 * words of the document one by one, on lists and on Java's own doubles.
 */
public final class ModelTest {
    private static final int RUNS = 3000;
    private static final int CALLS = 512;

    /** How many calls the run's objects have had; what they answer after the 512th is free. */
    private static int calls;

    public static void main(String[] args) {
        for (int run = 0; run < RUNS; run++) {
            oneRun(run, new Random(run));
        }
        Check.end();
    }

    private interface Ask {
        long run();
    }

    private static String outcome(Ask ask) {
        try {
            return Long.toString(ask.run());
        } catch (RuntimeException e) {
            return e.getClass().getSimpleName();
        }
    }

    private static void oneRun(int run, Random random) {
        HostBridge x = new HostBridge();
        Model y = new Model();
        // Some runs tell many classes and methods, others make many calls.
        int telling = 1 + random.nextInt(30);
        calls = 0;
        while (calls < CALLS) {
            int which = random.nextInt(100) < telling || calls < 12 ? random.nextInt(3) : 3 + random.nextInt(9);
            int[] p = new int[5];
            for (int i = 0; i < 5; i++) {
                p[i] = random.nextInt(24) - 1;
            }
            step(run, x, y, which, p, random);
        }
    }

    private static void step(int run, HostBridge x, Model y, int which, int[] p, Random random) {
        int klass = near(random, y.parents.size());
        int object = near(random, y.classOf.size());
        int name = random.nextInt(60) == 0 ? 1000 * random.nextInt(2) - random.nextInt(2) : random.nextInt(2);
        switch (which) {
            case 0 -> same(run, "klass", () -> x.klass(klass), () -> y.klass(klass));
            case 1 -> {
                int many = random.nextInt(40) == 0 ? p[0] : random.nextInt(2) + random.nextInt(4);
                int types = someTypes(random, Math.max(0, Math.min(many, 4)), y.parents.size());
                int result = random.nextInt(40) == 0 ? p[1] : random.nextInt(6);
                same(run, "method", () -> x.method(klass, name, many, types, result),
                        () -> y.method(klass, name, many, types, result));
            }
            case 2 -> same(run, "object", () -> x.object(klass), () -> y.object(klass));
            case 3, 4 -> {
                for (int i = random.nextInt(3); i >= 0; i--) {
                    int kind = random.nextInt(60) == 0 ? p[0] : random.nextInt(7);
                    long bits = someBits(random, kind, object);
                    same(run, "argument", () -> x.argument(kind, bits), () -> y.argument(kind, bits));
                }
            }
            case 5 -> {
                int i = near(random, y.kinds.size());
                same(run, "weight", () -> x.weight(i, p[1]), () -> y.weight(i, p[1]));
            }
            case 6, 7 -> same(run, "call", () -> x.call(object, name), () -> y.call(object, name));
            case 8 -> {
                int types = exactTypes(random, y);
                same(run, "exact", () -> x.exact(object, name, types), () -> y.exact(object, name, types));
            }
            case 9 -> {
                long bits = random.nextLong();
                for (int i = random.nextInt(12) == 0 ? 30 : 1; i > 0; i--) {
                    same(run, "answer", () -> zero(() -> x.answer(bits)), () -> zero(() -> y.answer(bits)));
                }
            }
            case 10 -> {
                same(run, "given", () -> x.given(), () -> y.given());
                same(run, "calls", () -> x.calls(), () -> y.made.size());
            }
            default -> {
                int k = y.made.size() - random.nextInt(Math.min(70, y.made.size() + 3));
                int what = random.nextInt(20) == 0 ? p[0] : random.nextInt(3);
                int i = random.nextInt(4) - (random.nextInt(10) == 0 ? 1 : 0);
                same(run, "look", () -> x.look(k, what), () -> y.look(k, what));
                same(run, "converted", () -> x.converted(k, i), () -> y.converted(k, i));
            }
        }
    }

    private static long zero(Check.Call call) {
        call.run();
        return 0;
    }

    private static void same(int run, String what, Ask got, Ask want) {
        calls++;
        if (calls > CALLS) {
            return;
        }
        String is = outcome(got);
        String due = outcome(want);
        if (!is.equals(due)) {
            Check.complain("run " + run + ": " + what + " answered " + is + ", due is " + due);
        }
    }

    private static int near(Random random, int count) {
        return random.nextInt(30) == 0 || count == 0 ? random.nextInt(3) - 1 + count * random.nextInt(2) - 1
                : random.nextInt(count);
    }

    private static int someTypes(Random random, int many, int classes) {
        int types = 0;
        for (int i = 0; i < many; i++) {
            // Most values fit text and value, so these make calls with several candidates.
            int type = random.nextBoolean() ? 4 + random.nextInt(2) : random.nextInt(6 + classes);
            types = types << 8 | type;
        }
        return random.nextInt(40) == 0 ? types ^ 1 << random.nextInt(32) : types;
    }

    private static int exactTypes(Random random, Model y) {
        for (int tries = random.nextInt(20); tries > 0 && !y.methods.isEmpty(); tries--) {
            int[] types = y.methods.get(random.nextInt(y.methods.size())).types;
            if (types.length == y.kinds.size()) {
                return Check.types(types);
            }
        }
        return someTypes(random, y.kinds.size(), y.parents.size());
    }

    private static long someBits(Random random, int kind, int object) {
        if (kind == 5) {
            return object;
        }
        if (kind == 2) {
            return random.nextInt(random.nextInt(20) == 0 ? 4 : 2);
        }
        if (kind != 3) {
            return random.nextInt(30) - 1;
        }
        double power = Math.scalb(random.nextBoolean() ? 1.0 : -1.0, random.nextInt(60) - 2);
        return switch (random.nextInt(7)) {
            case 0 -> Check.bits(random.nextInt(5) - 2);
            case 1 -> Check.bits(random.nextInt());
            case 2 -> Check.bits(power);
            case 3 -> Check.bits(random.nextBoolean() ? Math.nextUp(power) : Math.nextDown(power));
            case 4 -> Check.bits(Math.floor(power * random.nextDouble()) / (1 << random.nextInt(3)));
            case 5 -> Check.bits(power + random.nextInt(3) - 1);
            default -> random.nextBoolean() ? random.nextLong() : Check.bits(-0.0);
        };
    }

    private record Told(int klass, int name, int[] types) {
    }

    private record Made(int object, int method, long[] values) {
    }

    private static final class Model {
        final List<Integer> parents = new ArrayList<>();
        final List<Integer> classOf = new ArrayList<>();
        final List<Told> methods = new ArrayList<>();
        final List<Integer> kinds = new ArrayList<>();
        final List<Long> bits = new ArrayList<>();
        final List<Made> made = new ArrayList<>();
        final ArrayDeque<Long> answers = new ArrayDeque<>();
        long given;

        static void mustBe(boolean good) {
            if (!good) {
                throw new IllegalArgumentException();
            }
        }

        static void allow(boolean good) {
            if (!good) {
                throw new IllegalStateException();
            }
        }

        static boolean in(long i, int count) {
            return 0 <= i && i < count;
        }

        List<Integer> line(int klass) {
            List<Integer> line = new ArrayList<>();
            for (int at = klass; at != -1; at = parents.get(at)) {
                line.add(at);
            }
            return line;
        }

        int[] unpack(int many, int types) {
            int[] each = new int[many];
            long rest = types & 0xFFFFFFFFL;
            for (int i = many - 1; i >= 0; i--) {
                each[i] = (int) (rest % 256);
                rest /= 256;
                mustBe(in(each[i], 6 + parents.size()));
            }
            mustBe(rest == 0);
            return each;
        }

        int klass(int parent) {
            mustBe(parent == -1 || in(parent, parents.size()));
            allow(parents.size() < 16);
            parents.add(parent);
            return parents.size() - 1;
        }

        int method(int klass, int name, int many, int types, int result) {
            mustBe(in(klass, parents.size()) && in(name, 1000) && in(many, 5) && in(result, 6 + parents.size()));
            int[] each = unpack(many, types);
            for (Told told : methods) {
                allow(told.klass != klass || told.name != name || !Arrays.equals(told.types, each));
            }
            allow(methods.size() < 64);
            methods.add(new Told(klass, name, each));
            return methods.size() - 1;
        }

        int object(int klass) {
            mustBe(in(klass, parents.size()));
            allow(classOf.size() < 64);
            classOf.add(klass);
            return classOf.size() - 1;
        }

        int argument(int kind, long value) {
            mustBe(in(kind, 7));
            mustBe(kind != 2 || in(value, 2));
            mustBe(kind != 5 || in(value, classOf.size()));
            mustBe(kind != 4 && kind != 6 || value >= 0);
            allow(kinds.size() < 4);
            kinds.add(kind);
            bits.add(value);
            return kinds.size();
        }

        int weight(int i, int type) {
            mustBe(in(i, kinds.size()) && in(type, 6 + parents.size()));
            return weigh(kinds.get(i), bits.get(i), type);
        }

        private int weigh(int kind, long value, int type) {
            return switch (kind) {
                case 0 -> type == 4 ? 41 : type == 5 ? 0 : -1;
                case 1 -> type == 4 ? 2 : type == 5 ? 0 : type > 5 ? 1 : -1;
                case 2 -> type == 0 ? 0 : type == 4 ? 3 : type == 5 ? 2 : -1;
                case 3 -> weighNumber(Double.longBitsToDouble(value), type);
                case 4 -> type == 4 ? 0 : type == 5 ? 2 : -1;
                case 5 -> type == 4 ? 40 : type == 5 ? 20
                        : type > 5 ? line(classOf.get((int) value)).indexOf(type - 6) : -1;
                default -> type == 4 ? 40 : type == 5 ? 0 : -1;
            };
        }

        private static int weighNumber(double number, int type) {
            boolean isLong = number == Math.rint(number) && Math.abs(number) <= 0x1p53;
            boolean isInt = isLong && number == (int) number && !Double.valueOf(number).equals(-0.0);
            return switch (type) {
                case 0 -> 6;
                case 1 -> isInt ? 0 : -1;
                case 2 -> isInt ? 1 : isLong ? 0 : -1;
                case 3 -> isInt ? 2 : isLong ? 1 : 0;
                case 4 -> 5;
                case 5 -> 4;
                default -> -1;
            };
        }

        private boolean fits(int m) {
            int[] types = methods.get(m).types;
            for (int i = 0; i < types.length; i++) {
                if (weigh(kinds.get(i), bits.get(i), types[i]) < 0) {
                    return false;
                }
            }
            return true;
        }

        private boolean hides(int near, int far, List<Integer> line) {
            Told a = methods.get(near);
            Told b = methods.get(far);
            return a.name == b.name && Arrays.equals(a.types, b.types)
                    && line.contains(a.klass) && line.indexOf(a.klass) < line.indexOf(b.klass);
        }

        private boolean isOf(int m, int object, int name) {
            List<Integer> line = line(classOf.get(object));
            Told told = methods.get(m);
            if (told.name != name || told.types.length != kinds.size() || !line.contains(told.klass)) {
                return false;
            }
            for (int other = 0; other < methods.size(); other++) {
                if (hides(other, m, line)) {
                    return false;
                }
            }
            return true;
        }

        private boolean notAbove(int m, int other) {
            for (int i = 0; i < kinds.size(); i++) {
                if (weigh(kinds.get(i), bits.get(i), methods.get(m).types[i])
                        > weigh(kinds.get(i), bits.get(i), methods.get(other).types[i])) {
                    return false;
                }
            }
            return true;
        }

        private int best(int object, int name) {
            mustBe(in(object, classOf.size()) && in(name, 1000));
            List<Integer> candidates = new ArrayList<>();
            for (int m = 0; m < methods.size(); m++) {
                if (isOf(m, object, name) && fits(m)) {
                    candidates.add(m);
                }
            }
            if (candidates.isEmpty()) {
                throw new NoSuchElementException();
            }
            List<Integer> best = new ArrayList<>();
            for (int m : candidates) {
                if (candidates.stream().allMatch(other -> notAbove(m, other))) {
                    best.add(m);
                }
            }
            allow(best.size() == 1);
            return best.get(0);
        }

        private int told(int object, int name, int types) {
            mustBe(in(object, classOf.size()) && in(name, 1000));
            int[] each = unpack(kinds.size(), types);
            for (int m = 0; m < methods.size(); m++) {
                if (isOf(m, object, name) && Arrays.equals(methods.get(m).types, each) && fits(m)) {
                    return m;
                }
            }
            throw new NoSuchElementException();
        }

        int call(int object, int name) {
            try {
                return make(object, best(object, name));
            } finally {
                kinds.clear();
                bits.clear();
            }
        }

        int exact(int object, int name, int types) {
            try {
                return make(object, told(object, name, types));
            } finally {
                kinds.clear();
                bits.clear();
            }
        }

        private int make(int object, int m) {
            long[] values = new long[kinds.size()];
            for (int i = 0; i < values.length; i++) {
                values[i] = convert(kinds.get(i), bits.get(i), methods.get(m).types[i]);
            }
            made.add(new Made(object, m, values));
            given = answers.isEmpty() ? 0 : answers.remove();
            return m;
        }

        private static long convert(int kind, long value, int type) {
            double number = Double.longBitsToDouble(value);
            return switch (type) {
                case 0 -> kind == 2 ? value : number == 0 || number != number ? 0 : 1;
                case 1, 2 -> (long) number;
                case 3 -> value;
                case 4, 5 -> kind;
                default -> kind == 1 ? -1 : value;
            };
        }

        void answer(long value) {
            allow(answers.size() < 64);
            answers.add(value);
        }

        long given() {
            allow(!made.isEmpty());
            return given;
        }

        private Made kept(int k) {
            if (!in(k, made.size()) || k < made.size() - 64) {
                throw new IndexOutOfBoundsException();
            }
            return made.get(k);
        }

        int look(int k, int what) {
            mustBe(in(what, 3));
            Made call = kept(k);
            return what == 0 ? call.object : what == 1 ? call.method : call.values.length;
        }

        long converted(int k, int i) {
            Made call = kept(k);
            if (!in(i, call.values.length)) {
                throw new IndexOutOfBoundsException();
            }
            return call.values[i];
        }
    }
}
