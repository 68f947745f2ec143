import java.io.IOException;
import java.nio.file.Files;
import java.nio.file.Path;
import java.util.ArrayList;
import java.util.List;
import java.util.regex.Pattern;

/** Whether the source keeps to the rules of LANGUAGE.md that can be seen from its words. */
final class SourceTests {

    private static final int LONGEST_METHOD = 60;
    private static final List<String> BANNED = List.of("\\bcatch\\b", "\\bfinally\\b", "\\btry\\b", "\\bassert\\b",
            "\\bsynchronized\\b", "->", "::", "\\bprotected\\b", "\\bpackage\\b", "\" \\+", "\\+ \"", "\\bstatic \\{",
            "\\b(Object|System|Thread|Random|Throwable)\\b", "[^\\x00-\\x7f]", "Exact\\(");

    private SourceTests() {
    }

    static void run(Checks checks, Path source) throws IOException {
        List<String> lines = Files.readAllLines(source);
        checkImports(checks, lines);
        checkMethods(checks, lines);
        for (String banned : BANNED) {
            checks.same("the lines with " + banned, List.of(), linesWith(Pattern.compile(banned), lines));
        }
    }

    private static List<String> linesWith(Pattern banned, List<String> lines) {
        List<String> found = new ArrayList<>();
        for (String line : lines) {
            String code = line.replaceAll("//.*|^\\s*/?\\*.*", "");
            if (banned.matcher(code).find()) {
                found.add(line.trim());
            }
        }
        return found;
    }

    private static void checkImports(Checks checks, List<String> lines) {
        List<String> imports = linesWith(Pattern.compile("^import "), lines);
        checks.same("the imports", List.of("import java.util.NoSuchElementException;"), imports);
    }

    private static void checkMethods(Checks checks, List<String> lines) {
        int start = 0;
        int longest = 0;
        for (int at = 0; at < lines.size(); at++) {
            // In that file a blank line stands between two methods, and none within one.
            start = lines.get(at).isBlank() ? at : start;
            longest = Math.max(longest, at - start);
        }
        checks.isTrue("no method has over " + LONGEST_METHOD + " lines", longest <= LONGEST_METHOD);
    }
}
