import java.lang.reflect.Method;
import java.util.regex.Matcher;
import java.util.regex.Pattern;

/**
 * Runs calls that are written as the examples of the document are: behind each call "=" and its
 * result, or "throws" and the name of an exception (its end, "Exception", may be left out), and a
 * semicolon between two calls. Behind a turn can stand "refused 3 12", with the reason and the
 * detail that are kept then, and behind read() "malformed 4", with the error position.
 * text("..") appends all characters of a text; its result is the new length.
 */
final class Script {

    private static final Pattern CALL = Pattern.compile(
            "\\s*(\\w+)\\((\"[^\"]*\"|'.'|[^()\"']*)\\)\\s*"
            + "(?:=\\s*(\\S+?)|throws (\\w+?)(?:Exception)?|refused (\\d+) (\\d+)|malformed (\\d+))\\s*(?:;|$)");

    private static final int MOST_CALLS = 512;

    private final Checks checks;
    private final String title;
    private final SealedBoard board;
    private int calls;

    private Script(Checks checks, String title, SealedBoard board) {
        this.checks = checks;
        this.title = title;
        this.board = board;
    }

    /** Runs the calls on a new object, and gives it back. */
    static SealedBoard run(Checks checks, String title, String calls) {
        Script script = new Script(checks, title, new SealedBoard());
        Matcher matcher = CALL.matcher(calls);
        int end = 0;
        while (end < calls.trim().length() && matcher.find(end) && matcher.start() == end) {
            script.call(matcher);
            end = matcher.end();
        }
        checks.same(title + ": the end of the run", calls.trim().length(), Math.min(end, calls.trim().length()));
        // What an object answers after that many calls is free.
        checks.isTrue(title + ": at most " + MOST_CALLS + " calls", script.calls <= MOST_CALLS);
        return script.board;
    }

    static String repeat(int times, String calls) {
        return calls.repeat(times);
    }

    private void call(Matcher call) {
        String name = call.group(1);
        String written = call.group(2);
        if (call.group(3) != null) {
            check(name, written, plain(call.group(3)));
        } else if (call.group(4) != null) {
            check(name, written, "throws " + call.group(4) + "Exception");
        } else if (call.group(5) != null) {
            check(name, written, "throws UnsupportedOperationException");
            check("reason", "false", call.group(5));
            check("reason", "true", call.group(6));
        } else {
            check(name, written, "throws IllegalArgumentException");
            check("errorPosition", "", call.group(7));
        }
    }

    private void check(String name, String written, String due) {
        String got = name.equals("text") ? appendAll(written) : answer(name, written);
        checks.same(title + ": " + name + "(" + written + ")", due, got);
    }

    private static String plain(String due) {
        int slash = due.indexOf('/');
        if (slash > 0) {
            double upper = Integer.parseInt(due.substring(0, slash));
            return String.valueOf(upper / Integer.parseInt(due.substring(slash + 1)));
        }
        return due;
    }

    private String appendAll(String written) {
        String text = written.substring(1, written.length() - 1);
        String last = "";
        for (char character : text.toCharArray()) {
            calls++;
            last = Calls.answer(board, "append", character);
        }
        return last;
    }

    private String answer(String name, String written) {
        calls++;
        Method method = Calls.named(SealedBoard.class, name);
        Class<?>[] types = method.getParameterTypes();
        String[] parts = written.isEmpty() ? new String[0]
                : written.startsWith("'") ? new String[] {written} : written.split(",\\s*");
        Object[] arguments = new Object[types.length];
        for (int at = 0; at < types.length; at++) {
            arguments[at] = argument(types[at], parts[at].trim());
        }
        return Calls.answer(board, method, arguments);
    }

    private static Object argument(Class<?> type, String written) {
        if (type == boolean.class) {
            return Boolean.valueOf(written);
        }
        if (type == char.class) {
            return written.startsWith("'") ? written.charAt(1) : (char) Integer.parseInt(written);
        }
        return Integer.valueOf(written);
    }
}
