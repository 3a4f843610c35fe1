/** The document's "Terms" of calls, of what is written down and of answers, sentence by sentence. */
public final class TermsOfCallsTest {
    private static final double TWO_31 = 2147483648.0;
    private static final double TWO_53 = 9007199254740992.0;

    public static void main(String[] args) {
        Check.sentence("An object is used for at most 512 calls after it has been made",
                TermsOfCallsTest::fiveHundredAndTwelveCalls);
        Check.sentence("the CANDIDATES are its methods of the name", TermsOfCallsTest::candidatesHaveTheName);
        Check.sentence("with as many parameters", TermsOfCallsTest::candidatesHaveAsManyParameters);
        Check.sentence("all of whose types its arguments fit", TermsOfCallsTest::candidatesFitWholly);
        Check.sentence("argument by argument, its weight is not above that of any other candidate",
                TermsOfCallsTest::theBestIsNowhereAbove);
        Check.sentence("and it is the only one of which that is so", TermsOfCallsTest::theBestIsAlone);
        Check.sentence("An EXACT call says the types, too: the method with just these",
                TermsOfCallsTest::exactCallsSayTheTypes);
        Check.sentence("(its arguments must fit them)", TermsOfCallsTest::exactCallsMustFit);
        Check.sentence("A call that is made is WRITTEN DOWN: its object, method and arguments",
                TermsOfCallsTest::madeCallsAreWrittenDown);
        Check.sentence("a truth 0 or 1", TermsOfCallsTest::truths);
        Check.sentence("(a number's: 0 for zeros and NAN, else 1)", TermsOfCallsTest::truthsOfNumbers);
        Check.sentence("an int or long the whole number", TermsOfCallsTest::wholeNumbers);
        Check.sentence("a double the bits", TermsOfCallsTest::bitsOfDoubles);
        Check.sentence("an object its number (-1 for null)", TermsOfCallsTest::numbersOfObjects);
        Check.sentence("for text and value the kind", TermsOfCallsTest::kindsForTextAndValue);
        Check.sentence("It gives the next of the host's ANSWERS (a number each)", TermsOfCallsTest::answersInOrder);
        Check.sentence("or 0 when there is none", TermsOfCallsTest::zeroWithoutAnswers);
        Check.end();
    }

    /** An object after 508 calls that were made, 511 calls of its face in all. */
    private static HostBridge nearlyUsedUp() {
        HostBridge x = Bridges.oneMethod();
        for (int k = 0; k < 508; k++) {
            x.call(0, 0);
        }
        return x;
    }

    private static void fiveHundredAndTwelveCalls() {
        Check.due("calls", nearlyUsedUp().calls(), 508);
        Check.due("the latest call", nearlyUsedUp().look(507, 1), 0);
        Check.due("the first one kept", nearlyUsedUp().look(444, 1), 0);
        Check.dueThrow("the last one not kept", Check.OUT_OF_BOUNDS, () -> nearlyUsedUp().look(443, 1));
        Check.dueThrow("one after the latest", Check.OUT_OF_BOUNDS, () -> nearlyUsedUp().look(508, 1));
        Check.due("given", nearlyUsedUp().given(), 0);
        Check.due("one call more", nearlyUsedUp().call(0, 0), 0);
        Check.due("one class more", nearlyUsedUp().klass(0), 1);
        Check.due("one argument", nearlyUsedUp().argument(Bridges.NULL, 0), 1);
    }

    private static void candidatesHaveTheName() {
        HostBridge x = Bridges.oneObject();
        x.method(0, 1, 1, 4, 0);
        x.method(0, 2, 1, 5, 0);
        Bridges.nulls(x, 1);
        Check.due("value of name 2 fits better, but text has the name", x.call(0, 1), 0);
        Bridges.nulls(x, 1);
        Check.due("the other name", x.call(0, 2), 1);
        Bridges.nulls(x, 1);
        Check.dueThrow("a name between", Check.NO_ELEMENT, () -> x.call(0, 3));
    }

    private static void candidatesHaveAsManyParameters() {
        HostBridge x = Bridges.oneObject();
        for (int many = 0; many <= 4; many++) {
            x.method(0, many % 2, many, 0, 0);
        }
        for (int many = 0; many <= 4; many++) {
            for (int i = 0; i < many; i++) {
                x.argument(Bridges.TRUTH, 1);
            }
            Check.due("arguments, " + many, x.call(0, many % 2), many);
            for (int i = 0; i < many; i++) {
                x.argument(Bridges.TRUTH, 1);
            }
            int other = 1 - many % 2;
            Check.dueThrow("one too many or too few, " + many, Check.NO_ELEMENT, () -> x.call(0, other));
        }
    }

    private static void candidatesFitWholly() {
        for (int at = 0; at < 4; at++) {
            HostBridge x = Bridges.oneObject();
            // Long everywhere, but text at one place: a truth there fits no long.
            x.method(0, 1, 4, Check.types(2, 2, 2, 2), 0);
            int mixed = 0x02020202 ^ 6 << 8 * (3 - at);
            mixedArguments(x, at);
            Check.dueThrow("one does not fit, " + at, Check.NO_ELEMENT, () -> x.call(0, 1));
            x.method(0, 1, 4, mixed, 0);
            mixedArguments(x, at);
            Check.due("the one that fits, " + at, x.call(0, 1), 1);
        }
        HostBridge x = Bridges.oneObject();
        x.method(0, 1, 2, Check.types(1, 6), 0);
        x.method(0, 1, 2, Check.types(3, 3), 0);
        Bridges.numbers(x, 1, 1);
        Check.due("what does not fit is not weighed", x.call(0, 1), 1);
    }

    private static void mixedArguments(HostBridge x, int at) {
        for (int i = 0; i < 4; i++) {
            if (i == at) {
                x.argument(Bridges.TRUTH, 1);
            } else {
                Bridges.numbers(x, 1);
            }
        }
    }

    private static void theBestIsNowhereAbove() {
        HostBridge one = Bridges.oneObject();
        one.method(0, 1, 1, 5, 0);
        one.method(0, 1, 1, 3, 0);
        one.method(0, 1, 1, 2, 0);
        one.method(0, 1, 1, 0, 0);
        Bridges.numbers(one, 5);
        Check.due("an INT goes to long", one.call(0, 1), 2);
        Bridges.numbers(one, 5.5);
        Check.due("5.5 goes to double", one.call(0, 1), 1);
        one.argument(Bridges.TEXT, 5);
        Check.due("a text goes to value", one.call(0, 1), 0);
        for (int at = 0; at < 4; at++) {
            HostBridge x = Bridges.oneObject();
            // Int at one place and double elsewhere, and the other way round.
            int intAt = 0x03030303 ^ 2 << 8 * (3 - at);
            x.method(0, 1, 4, intAt, 0);
            x.method(0, 1, 4, 0x02020202 ^ intAt, 0);
            Bridges.numbers(x, 1, 1, 1, 1);
            Check.dueThrow("each is above somewhere, " + at, Check.ILLEGAL_STATE, () -> x.call(0, 1));
            x.method(0, 1, 4, 0x03030303, 0);
            Bridges.numbers(x, 1, 1, 1, 1);
            Check.dueThrow("doubles help nothing, " + at, Check.ILLEGAL_STATE, () -> x.call(0, 1));
            x.method(0, 1, 4, 0x01010101, 0);
            Bridges.numbers(x, 1, 1, 1, 1);
            Check.due("equal at one place, lower elsewhere, " + at, x.call(0, 1), 3);
        }
    }

    private static void theBestIsAlone() {
        HostBridge x = Bridges.family();
        x.method(0, 1, 1, 6, 0);
        Bridges.nulls(x, 1);
        Check.due("alone of all", x.call(0, 1), 0);
        x.method(0, 1, 1, 7, 0);
        Bridges.nulls(x, 1);
        Check.dueThrow("two alike", Check.ILLEGAL_STATE, () -> x.call(0, 1));
        x.method(0, 1, 1, 4, 0);
        Bridges.nulls(x, 1);
        Check.dueThrow("two alike, a third one worse", Check.ILLEGAL_STATE, () -> x.call(0, 1));
        x.method(0, 1, 1, 8, 0);
        Bridges.nulls(x, 1);
        Check.dueThrow("three alike", Check.ILLEGAL_STATE, () -> x.call(0, 1));
        x.method(0, 1, 1, 5, 0);
        Bridges.nulls(x, 1);
        Check.due("a better one", x.call(0, 1), 4);
        HostBridge full = Bridges.oneObject();
        for (int i = 0; i < 64; i++) {
            int types = 0;
            for (int at = 0; at < 4; at++) {
                types = types << 8 | 2 + (i >> 2 * at & 3);
            }
            full.method(0, 1, 4, types, 0);
        }
        Bridges.numbers(full, 0, 0, 0, 0);
        Check.due("alone of 64", full.call(0, 1), 0);
    }

    private static void exactCallsSayTheTypes() {
        HostBridge x = Bridges.oneObject();
        x.method(0, 1, 2, Check.types(1, 3), 0);
        x.method(0, 1, 2, Check.types(3, 1), 0);
        x.method(0, 1, 2, Check.types(1, 1), 0);
        int[] types = {Check.types(1, 3), Check.types(3, 1), Check.types(1, 1)};
        for (int m = 0; m < 3; m++) {
            Bridges.numbers(x, 0, 0);
            Check.due("an exact call of method " + m, x.exact(0, 1, types[m]), m);
        }
        Bridges.numbers(x, 0, 0);
        Check.dueThrow("types that none has", Check.NO_ELEMENT, () -> x.exact(0, 1, Check.types(3, 3)));
        x.method(0, 2, 1, 6, 0);
        x.klass(0);
        x.object(1);
        x.argument(Bridges.HOST, 1);
        Check.dueThrow("an heir's type", Check.NO_ELEMENT, () -> x.exact(0, 2, 7));
        x.argument(Bridges.HOST, 1);
        Check.due("the very type", x.exact(0, 2, 6), 3);
    }

    private static void exactCallsMustFit() {
        HostBridge x = Bridges.oneObject();
        x.method(0, 1, 4, 0x02020202, 0);
        for (int at = 0; at < 4; at++) {
            mixedArguments(x, at);
            Check.dueThrow("one does not fit, " + at, Check.NO_ELEMENT, () -> x.exact(0, 1, 0x02020202));
        }
        Bridges.numbers(x, 1, -0.0, TWO_53, -TWO_53);
        Check.due("all fit", x.exact(0, 1, 0x02020202), 0);
    }

    private static void madeCallsAreWrittenDown() {
        HostBridge x = Bridges.aNameForEachType();
        x.method(1, 20, 4, Check.types(1, 2, 4, 6), 0);
        Bridges.numbers(x, -3);
        x.call(1, 1);
        Check.dueThrow("one that throws", Check.NO_ELEMENT, () -> x.call(0, 1));
        Bridges.numbers(x, 4, 5);
        x.argument(Bridges.TEXT, 77);
        x.argument(Bridges.HOST, 3);
        x.exact(2, 20, Check.types(1, 2, 4, 6));
        long[][] due = {{1, 1, 1}, {2, 11, 4}};
        for (int k = 0; k < 2; k++) {
            for (int what = 0; what < 3; what++) {
                Check.due("call " + k + ", what " + what, x.look(k, what), due[k][what]);
            }
        }
        Check.due("the only argument", x.converted(0, 0), -3);
        long[] values = {4, 5, 4, 3};
        for (int i = 0; i < 4; i++) {
            Check.due("argument " + i, x.converted(1, i), values[i]);
        }
    }

    /** What a value is written down as that is converted to a type. */
    private static void row(int kind, long bits, int type, long due) {
        HostBridge x = Bridges.aNameForEachType();
        String what = "kind " + kind + ", bits " + bits + " for type " + type;
        x.argument(kind, bits);
        x.call(0, type);
        Check.due(what, x.converted(0, 0), due);
        x.argument(kind, bits);
        x.exact(0, type, type);
        Check.due(what + ", exactly", x.converted(1, 0), due);
    }

    private static void numberRow(double number, int type, long due) {
        row(Bridges.NUMBER, Check.bits(number), type, due);
    }

    private static void truths() {
        row(Bridges.TRUTH, 0, 0, 0);
        row(Bridges.TRUTH, 1, 0, 1);
    }

    private static void truthsOfNumbers() {
        for (double zero : new double[] {0.0, -0.0}) {
            numberRow(zero, 0, 0);
        }
        for (long nan : new long[] {Check.bits(Double.NaN), -1, Long.MAX_VALUE, 0x7FF0000000000001L,
            0xFFF0000000000001L}) {
            row(Bridges.NUMBER, nan, 0, 0);
        }
        for (double other : new double[] {1, -1, 0.5, -0.5, Double.MIN_VALUE, -Double.MIN_VALUE, Double.MAX_VALUE,
            TWO_53, -TWO_53, Double.POSITIVE_INFINITY, Double.NEGATIVE_INFINITY}) {
            numberRow(other, 0, 1);
        }
    }

    private static void wholeNumbers() {
        double[] ints = {0, 1, -1, 2, 3, 4096, -65537, TWO_31 - 1, -TWO_31};
        for (double each : ints) {
            numberRow(each, 1, (long) each);
            numberRow(each, 2, (long) each);
        }
        numberRow(-0.0, 2, 0);
        double[] longs = {TWO_31, -TWO_31 - 1, 2 * TWO_31, TWO_53 / 2 - 1, TWO_53 / 2, TWO_53 / 2 + 1, TWO_53 - 1,
            1 - TWO_53, TWO_53, -TWO_53};
        for (double each : longs) {
            numberRow(each, 2, (long) each);
        }
    }

    private static void bitsOfDoubles() {
        for (double each : new double[] {0.0, 1, -1, 0.5, TWO_31, TWO_53, -TWO_53, TWO_53 + 2, Double.MIN_VALUE,
            Double.MAX_VALUE, Double.POSITIVE_INFINITY, Double.NEGATIVE_INFINITY}) {
            numberRow(each, 3, Check.bits(each));
        }
        numberRow(-0.0, 3, Long.MIN_VALUE);
        for (long nan : new long[] {-1, Long.MAX_VALUE, 0x7FF0000000000001L, 0xFFF0000000000001L}) {
            row(Bridges.NUMBER, nan, 3, nan);
        }
    }

    private static void numbersOfObjects() {
        for (int type = 6; type < 11; type++) {
            row(Bridges.NULL, 5, type, -1);
            row(Bridges.HOST, type - 6, type, type - 6);
        }
        row(Bridges.HOST, 2, 6, 2);
        HostBridge x = Bridges.oneMethod();
        for (int i = 1; i < 64; i++) {
            x.object(0);
        }
        x.method(0, 1, 2, Check.types(6, 6), 0);
        x.argument(Bridges.HOST, 63);
        x.argument(Bridges.HOST, 0);
        x.call(0, 1);
        Check.due("the last object", x.converted(0, 0), 63);
        Check.due("the first object", x.converted(0, 1), 0);
    }

    private static void kindsForTextAndValue() {
        for (int type = 4; type < 6; type++) {
            row(Bridges.UNDEFINED, 9, type, 0);
            row(Bridges.NULL, 9, type, 1);
            row(Bridges.TRUTH, 0, type, 2);
            row(Bridges.TRUTH, 1, type, 2);
            numberRow(9, type, 3);
            numberRow(Double.NaN, type, 3);
            numberRow(TWO_31, type, 3);
            row(Bridges.TEXT, 9, type, 4);
            row(Bridges.HOST, 1, type, 5);
            row(Bridges.OTHER, 9, type, 6);
        }
    }

    private static void answersInOrder() {
        HostBridge x = Bridges.oneMethod();
        long[] answers = {Long.MIN_VALUE, -1, 0, 7, Long.MAX_VALUE};
        for (long each : answers) {
            x.answer(each);
        }
        for (int i = 0; i < 5; i++) {
            if (i % 2 == 0) {
                x.call(0, 0);
            } else {
                x.exact(0, 0, 0);
            }
            Check.due("given by call " + i, x.given(), answers[i]);
        }
    }

    private static void zeroWithoutAnswers() {
        HostBridge x = Bridges.oneMethod();
        x.call(0, 0);
        Check.due("none there", x.given(), 0);
        x.answer(5);
        x.call(0, 0);
        Check.due("one there", x.given(), 5);
        x.call(0, 0);
        Check.due("none left", x.given(), 0);
        x.answer(6);
        x.exact(0, 0, 0);
        x.exact(0, 0, 0);
        Check.due("none left exactly", x.given(), 0);
    }
}
