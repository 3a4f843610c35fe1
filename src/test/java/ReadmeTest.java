import java.io.IOException;
import java.nio.file.Files;
import java.nio.file.Path;
import java.util.ArrayList;
import java.util.List;

/** The example of README.md is the one below, line for line, and answers what its comments say. */
public final class ReadmeTest {
    public static void main(String[] args) throws IOException {
        theExampleAnswers();
        List<String> told = between(Path.of("README.md"), "```java", "```");
        List<String> run = between(Path.of("src/test/java/ReadmeTest.java"), "// The example begins.",
                "// The example ends.");
        if (told.isEmpty() || !told.equals(run)) {
            Check.complain("the example of README.md is not the one of this test");
        }
        Check.end();
    }

    private static void theExampleAnswers() {
        // The example begins.
        HostBridge bridge = new HostBridge();
        int shape = bridge.klass(-1);                           // a class without a parent
        int disc = bridge.klass(shape);                         // a class whose parent is shape
        int name = 5;
        int ofInt = bridge.method(shape, name, 1, 1, 4);        // (int), gives text
        int ofDouble = bridge.method(shape, name, 1, 3, 4);     // (double), gives text
        int types = 4 << 8 | 6 + shape;                         // text, then a shape
        int ofTwo = bridge.method(disc, name, 2, types, 5);     // (text, shape), gives a value
        int object = bridge.object(disc);

        bridge.answer(42);                                      // what the host will give
        bridge.argument(3, Double.doubleToRawLongBits(7.5));    // a number
        int weight = bridge.weight(0, 1);                       // -1: 7.5 does not fit an int
        int called = bridge.call(object, name);                 // ofDouble
        long given = bridge.given();                            // 42
        long bits = bridge.converted(0, 0);                     // the bits of 7.5

        bridge.argument(3, Double.doubleToRawLongBits(7));      // call would choose ofInt
        int exact = bridge.exact(object, name, 3);              // ofDouble, as its type is said

        bridge.argument(4, 100);                                // text number 100
        bridge.argument(5, object);                             // a host object
        int two = bridge.call(object, name);                    // ofTwo
        int made = bridge.calls();                              // 3
        int arguments = bridge.look(2, 2);                      // 2: of call 2, how many arguments
        long second = bridge.converted(2, 1);                   // object
        // The example ends.
        Check.due("ofInt", ofInt, 0);
        Check.due("weight", weight, -1);
        Check.due("called", called, ofDouble);
        Check.due("given", given, 42);
        Check.due("bits", bits, Check.bits(7.5));
        Check.due("exact", exact, ofDouble);
        Check.due("two", two, ofTwo);
        Check.due("made", made, 3);
        Check.due("arguments", arguments, 2);
        Check.due("second", second, object);
        bridge.argument(3, Check.bits(7));
        Check.due("call would choose ofInt", bridge.call(object, name), ofInt);
    }

    /** The lines of a file between the first one that is begin and the next one that is end, stripped. */
    private static List<String> between(Path file, String begin, String end) throws IOException {
        List<String> found = new ArrayList<>();
        boolean inside = false;
        for (String line : Files.readAllLines(file)) {
            String text = line.strip();
            if (inside && text.equals(end)) {
                return found;
            }
            if (inside) {
                found.add(text);
            }
            inside = inside || text.equals(begin);
        }
        return List.of();
    }
}
