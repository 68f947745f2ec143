import java.util.Arrays;

/**
 * Values of parameters that are too small or too large, by one and by far, also such that would
 * come back into the range if a number were cut to fewer bits; and the first and the last value.
 */
final class RangeTests {

    private static final String INDEX = "throws IndexOutOfBoundsException";
    private static final String ARGUMENT = "throws IllegalArgumentException";

    /** A parameter: its first and its last value, and the exception that is due for all others. */
    private record Range(int first, int last, String due) {

        int[] outside() {
            return new int[] {first - 1, last + 1, Integer.MIN_VALUE, Integer.MAX_VALUE, first - 64, first + 64,
                first - 256, first + 256, first + 65536, Integer.MIN_VALUE + first + 1, -last - 1};
        }
    }

    private static final Range SIDE = new Range(0, 1, INDEX);
    private static final Range SQUARE = new Range(0, 35, INDEX);

    private static final String[][] STATES = {
        {"a new object", ""},
        {"a game that was started", "start() = 12"},
        {"a game that was won", "lay(0, 0, 0) = 1; move(0, 1) = 0"},
        {"a board full of pieces", Boards.full(1)},
    };

    private final Checks checks;
    private final String state;
    private final String setUp;

    private RangeTests(Checks checks, String state, String setUp) {
        this.checks = checks;
        this.state = state;
        this.setUp = setUp;
    }

    static void run(Checks checks) {
        for (String[] state : STATES) {
            RangeTests tests = new RangeTests(checks, state[0], state[1]);
            tests.testAll("lay", SIDE, new Range(0, 3, ARGUMENT), SQUARE);
            for (String name : new String[] {"wall", "door", "buy", "moves", "picture"}) {
                tests.testAll(name, SQUARE);
            }
            for (String name : new String[] {"move", "canMove", "captures", "worth"}) {
                tests.testAll(name, SQUARE, SQUARE);
            }
            for (String name : new String[] {"rooms", "sealed", "sealedAgain", "sealedShare"}) {
                tests.testAll(name, SIDE);
            }
            tests.testAll("room", SIDE, SQUARE);
            tests.testAll("steps", SIDE, SQUARE);
            tests.testAll("square", SQUARE, new Range(0, 3, ARGUMENT));
            // Each of the states has one room.
            tests.testAll("roomOf", SIDE, new Range(0, 0, INDEX), new Range(0, 5, ARGUMENT));
            tests.testAll("account", new Range(0, 10, ARGUMENT));
            tests.testAppend();
        }
    }

    private String answer(String name, Object... arguments) {
        return Calls.answer(Script.run(new Checks(), state, setUp), name, arguments);
    }

    private void testAll(String name, Range... ranges) {
        Object[] arguments = new Object[ranges.length];
        for (int at = 0; at < ranges.length; at++) {
            testEdges(name, ranges, at);
            for (int wrong : ranges[at].outside()) {
                for (int other = 0; other < ranges.length; other++) {
                    arguments[other] = ranges[other].first();
                }
                arguments[at] = wrong;
                check(name, arguments, ranges[at].due());
                testSecondWrong(name, ranges, arguments, at);
            }
        }
    }

    private void testEdges(String name, Range[] ranges, int at) {
        Object[] arguments = new Object[ranges.length];
        for (int edge = 0; edge < 2; edge++) {
            for (int other = 0; other < ranges.length; other++) {
                arguments[other] = ranges[other].first();
            }
            arguments[at] = edge == 0 ? ranges[at].first() : ranges[at].last();
            String got = answer(name, arguments);
            checks.isTrue(state + ": " + name + Arrays.asList(arguments) + " has no wrong parameter",
                    !got.equals(INDEX) && !got.equals(ARGUMENT));
        }
    }

    private void testSecondWrong(String name, Range[] ranges, Object[] arguments, int at) {
        for (int second = 0; second < ranges.length; second++) {
            if (second != at) {
                Object[] both = arguments.clone();
                both[second] = ranges[second].last() + 1;
                // Of the two exceptions IndexOutOfBoundsException is documented first everywhere.
                boolean isIndex = ranges[at].due().equals(INDEX) || ranges[second].due().equals(INDEX);
                check(name, both, isIndex ? INDEX : ARGUMENT);
            }
        }
    }

    private void check(String name, Object[] arguments, String due) {
        checks.same(state + ": " + name + Arrays.asList(arguments), due, answer(name, arguments));
    }

    private void testAppend() {
        for (int code : new int[] {0, 10, 31, 127, 128, 255, 256 + 'a', 65535}) {
            checks.same(state + ": append of code " + code, ARGUMENT, answer("append", (char) code));
        }
        for (int code = 32; code <= 126; code++) {
            checks.same(state + ": append of code " + code, "1", answer("append", (char) code));
        }
    }
}
