import java.util.ArrayList;
import java.util.Arrays;
import java.util.List;
import java.util.Set;

/**
 * Whether calls that throw, and calls that only answer a question, leave the state unchanged: each
 * is called in several states, and what the object tells from then on is compared with what an
 * object tells that was not called. It asks more than the 512 calls that the document
 * promises: nothing in the class counts its calls.
 */
final class UnchangedTests {

    /** The sentences of the document's terms that are tested here. */
    static final List<String> SENTENCES = List.of(
            "A method that throws an exception leaves the state unchanged, unless its documentation says otherwise.",
            "Methods whose documentation does not mention a change only answer a question.");

    private static final Set<String> QUESTIONS = Set.of("square", "canMove", "moves", "captures", "best", "worth",
            "rooms", "room", "roomOf", "sealed", "sealedAgain", "steps", "sealedShare", "errorPosition", "reason",
            "picture", "account");

    private static final Object[] SQUARES = {-1, 0, 14, 20, 35, 36};
    private static final Object[] SIDES = {-1, 0, 1, 2};
    private static final Object[][][] CALLS = {
        {{"lay"}, SIDES, {-1, 0, 3, 4}, {-1, 0, 14, 36}},
        {{"wall"}, SQUARES}, {{"door"}, SQUARES}, {{"buy"}, SQUARES}, {{"moves"}, SQUARES}, {{"picture"}, SQUARES},
        {{"move"}, SQUARES, SQUARES}, {{"canMove"}, SQUARES, SQUARES}, {{"captures"}, SQUARES, SQUARES},
        {{"worth"}, SQUARES, SQUARES},
        {{"square"}, SQUARES, {-1, 0, 1, 2, 3, 4}},
        {{"rooms"}, SIDES}, {{"sealed"}, SIDES}, {{"sealedAgain"}, SIDES}, {{"sealedShare"}, SIDES},
        {{"room"}, SIDES, SQUARES}, {{"steps"}, SIDES, SQUARES},
        {{"roomOf"}, SIDES, {-1, 0, 1, 36}, {-1, 0, 1, 2, 3, 4, 5, 6}},
        {{"append"}, {(char) 31, 'a', (char) 127}}, {{"reason"}, {false, true}},
        {{"account"}, {-1, 0, 4, 6, 9, 10, 11}},
        {{"best"}}, {{"read"}}, {{"errorPosition"}}, {{"undo"}}, {{"restore"}},
    };

    private static final String MIDDLE = "wall(12) = 1; lay(0, 1, 14) = 1; lay(0, 0, 20) = 2; lay(0, 0, 35) = 3;"
            + " lay(1, 0, 13) = 1; lay(1, 1, 3) = 2; save() = 5; move(35, 34) = 0; move(3, 15) = 1; buy(14) = 0;"
            + " door(12) = 2; move(0, 1) refused 2 0; read() malformed 0; ";
    private static final String[][] STATES = {
        {"a new object", ""},
        {"a game that was started", "start() = 12"},
        {"the middle of a game", MIDDLE},
        {"the middle of a game, and the beginning of a text", MIDDLE + "text(\"c4-\") = 3"},
        {"the middle of a game, and a text that is refused behind its first turn", MIDDLE + "text(\"c4-c5;a1-a2\") = 11"},
        {"a board that was restored", MIDDLE + "restore() = 5"},
        {"after three undos", MIDDLE + "undo() = 5; undo() = 4; undo() = 3"},
        {"a game that was won", "lay(0, 0, 13) = 1; lay(0, 1, 3) = 2; lay(1, 3, 14) = 1; lay(1, 0, 35) = 2; move(3, 15) = 1;"
            + " text(\"f6-f5\") = 5"},
        {"a draw", "save() = 0; " + Boards.SIXTY_TURNS},
        {"a board full of walls", Boards.walls(36) + "save() = 0"},
        {"a board full of pieces", Boards.full(0) + "save() = 36"},
        {"a full input", "start() = 12; text(\"" + "a1-a2;".repeat(10) + "\") = 60"},
    };

    private final Checks checks;

    private UnchangedTests(Checks checks) {
        this.checks = checks;
    }

    static void run(Checks checks) {
        UnchangedTests tests = new UnchangedTests(checks);
        List<Object[]> calls = new ArrayList<>();
        for (Object[][] call : CALLS) {
            addAll(calls, call, new Object[] {call[0][0]});
        }
        for (String[] state : STATES) {
            Script.run(checks, state[0], state[1]);
            for (Object[] call : calls) {
                tests.compare(state, call);
            }
        }
    }

    /** Adds the call with each choice of arguments; those that are chosen stand in the start. */
    private static void addAll(List<Object[]> calls, Object[][] call, Object[] start) {
        if (start.length == call.length) {
            calls.add(start);
            return;
        }
        for (Object argument : call[start.length]) {
            Object[] longer = Arrays.copyOf(start, start.length + 1);
            longer[start.length] = argument;
            addAll(calls, call, longer);
        }
    }

    private void compare(String[] state, Object[] call) {
        String name = (String) call[0];
        SealedBoard called = made(state);
        String answer = Calls.answer(called, name, Arrays.copyOfRange(call, 1, call.length));
        if (!answer.startsWith("throws") && !QUESTIONS.contains(name)) {
            return;
        }
        // What a call keeps by its own documentation is left out: its runs test it.
        boolean keepsReason = answer.equals("throws UnsupportedOperationException");
        boolean isRead = name.equals("read");
        String due = story(made(state), !keepsReason, !isRead);
        String got = story(called, !keepsReason, !isRead);
        checks.isTrue(state[0] + ": " + List.of(call) + " changes nothing", due.equals(got));
    }

    private static SealedBoard made(String[] state) {
        return Script.run(new Checks(), state[0], state[1]);
    }

    // ---- all that an object tells

    private static String story(SealedBoard board, boolean hasReason, boolean hasInput) {
        StringBuilder story = new StringBuilder();
        if (hasReason) {
            tell(story, board, "reason", false);
            tell(story, board, "reason", true);
        }
        if (hasInput) {
            tell(story, board, "account", 9);
            tell(story, board, "errorPosition");
        }
        tellBoard(story, board);
        String left = "";
        while (!left.startsWith("throws")) {
            left = tell(story, board, "undo");
            tellBoard(story, board);
        }
        tell(story, board, "restore");
        tellBoard(story, board);
        if (hasInput) {
            // The characters of the input show in what a game makes of them.
            board.start();
            tell(story, board, "read");
            tell(story, board, "errorPosition");
            tellBoard(story, board);
        }
        return story.toString();
    }

    private static String tell(StringBuilder story, SealedBoard board, String name, Object... arguments) {
        String answer = Calls.answer(board, name, arguments);
        story.append(name).append(' ').append(answer).append('\n');
        return answer;
    }

    private static void tellBoard(StringBuilder story, SealedBoard board) {
        for (int square = 0; square < 36; square++) {
            story.append(board.picture(square));
            for (int what = 0; what < 4; what++) {
                story.append(board.square(square, what));
            }
        }
        for (int account = 0; account < 11; account++) {
            story.append(' ').append(account == 9 ? "" : board.account(account));
        }
        tell(story, board, "best");
        for (int side = 0; side < 2; side++) {
            story.append(board.rooms(side)).append(' ').append(board.sealed(side)).append(' ');
        }
    }
}
