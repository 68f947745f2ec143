import java.io.IOException;
import java.nio.file.Files;
import java.nio.file.Path;
import java.util.regex.Matcher;
import java.util.regex.Pattern;

/** Whether the calls that README.md shows answer what it writes behind them, all on one object. */
final class ReadmeTests {

    private static final Pattern CALL = Pattern.compile(
            "^(?:board\\.(\\w+)\\((.*)\\)|type\\(board, (\".*\")\\)); +// (throws \\w+|'.'|[^\\s,]+)(?:,.*)?$");
    private static final Pattern COMMENTED = Pattern.compile("^\\S.*;\\s*//.*$");

    private ReadmeTests() {
    }

    static void run(Checks checks, Path readme) throws IOException {
        StringBuilder calls = new StringBuilder();
        int count = 0;
        for (String line : Files.readAllLines(readme)) {
            Matcher call = CALL.matcher(line);
            boolean isCall = call.matches();
            checks.isTrue("a call that can be read: " + line, isCall == COMMENTED.matcher(line).matches());
            if (isCall) {
                calls.append(scripted(call)).append("; ");
                count++;
            }
        }
        checks.isTrue("README.md shows calls", count > 0);
        Script.run(checks, "README.md", calls.toString());
    }

    private static String scripted(Matcher call) {
        String named = call.group(3) == null ? call.group(1) + "(" + call.group(2) + ")"
                : "text(" + call.group(3) + ")";
        String due = call.group(4);
        if (due.startsWith("throws")) {
            return named + " " + due;
        }
        return named + " = " + (due.startsWith("'") ? due.substring(1, 2) : due);
    }
}
