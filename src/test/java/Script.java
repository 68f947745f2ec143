import java.lang.reflect.Method;
import java.util.regex.Matcher;
import java.util.regex.Pattern;

/**
 * Runs calls on a new object that are written as the examples of the document are: behind each
 * call "=" and its result, or "throws" and the name of an exception, and a semicolon between two
 * calls. text("..") appends all characters of a text; its result is the new length.
 */
final class Script {

    private static final Pattern CALL = Pattern.compile(
            "\\s*(\\w+)\\((\"[^\"]*\"|'.'|[^()\"']*)\\)\\s*(=\\s*(\\S+?)|(throws \\w+))\\s*(;|$)");

    private final Checks checks;
    private final String title;
    private final SealedBoard board = new SealedBoard();

    private Script(Checks checks, String title) {
        this.checks = checks;
        this.title = title;
    }

    static void run(Checks checks, String title, String calls) {
        Script script = new Script(checks, title);
        Matcher matcher = CALL.matcher(calls);
        int end = 0;
        while (end < calls.trim().length() && matcher.find(end) && matcher.start() == end) {
            String due = matcher.group(4) != null ? matcher.group(4) : matcher.group(5);
            script.call(matcher.group(1), matcher.group(2), due);
            end = matcher.end();
        }
        checks.same(title + ": the end of the run", calls.trim().length(), Math.min(end, calls.trim().length()));
    }

    static String repeat(int times, String calls) {
        return calls.repeat(times);
    }

    private void call(String name, String written, String due) {
        String what = title + ": " + name + "(" + written + ")";
        String got = name.equals("text") ? appendAll(written) : answer(name, written);
        checks.same(what, plain(due), got);
    }

    private static String plain(String due) {
        int slash = due.indexOf('/');
        if (slash > 0) {
            double upper = Integer.parseInt(due.substring(0, slash));
            return String.valueOf(upper / Integer.parseInt(due.substring(slash + 1)));
        }
        return due;
    }

    private String appendAll(String written) {
        String text = written.substring(1, written.length() - 1);
        String last = "";
        for (char character : text.toCharArray()) {
            last = Calls.answer(board, "append", character);
        }
        return last;
    }

    private String answer(String name, String written) {
        Method method = Calls.named(SealedBoard.class, name);
        Class<?>[] types = method.getParameterTypes();
        String[] parts = written.isEmpty() ? new String[0]
                : written.startsWith("'") ? new String[] {written} : written.split(",\\s*");
        Object[] arguments = new Object[types.length];
        for (int at = 0; at < types.length; at++) {
            arguments[at] = argument(types[at], parts[at].trim());
        }
        return Calls.answer(board, method, arguments);
    }

    private static Object argument(Class<?> type, String written) {
        if (type == boolean.class) {
            return Boolean.valueOf(written);
        }
        if (type == char.class) {
            return written.startsWith("'") ? written.charAt(1) : (char) Integer.parseInt(written);
        }
        return Integer.valueOf(written);
    }
}
