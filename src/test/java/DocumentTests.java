import java.io.IOException;
import java.nio.file.Files;
import java.nio.file.Path;
import java.util.ArrayList;
import java.util.Arrays;
import java.util.List;
import java.util.regex.Matcher;
import java.util.regex.Pattern;

/**
 * What can be taken from the document as it stands: its examples are run, and its face is compared
 * with the source, line by line, and with the headings ahead of its calls.
 */
final class DocumentTests {

    private static final Pattern EXAMPLE = Pattern.compile("- ([A-Z][^:]*): (.*?)\\.(?= - |$)");
    private static final Pattern DECLARED = Pattern.compile("public (?:\\w+ )?(\\w+)\\([^)]*\\)(?: throws [^{;]+)?");
    private static final Pattern HEADING = Pattern.compile("Ahead of the calls (.*?) the interface says: (---- [^.]*)\\.");

    private final Checks checks;
    private final Document document;
    private final String source;

    private DocumentTests(Checks checks, Document document, String source) {
        this.checks = checks;
        this.document = document;
        this.source = source;
    }

    static void run(Checks checks, Document document, Path source) throws IOException {
        DocumentTests tests = new DocumentTests(checks, document, Files.readString(source));
        tests.runExamples();
        tests.compareFace();
        tests.compareHeadings();
    }

    private void runExamples() {
        String text = document.between("behind each call and = stands its result.", "Ahead of the calls");
        Matcher example = EXAMPLE.matcher(Document.onOneLine(text.replaceAll("```\\w*", "")));
        int count = 0;
        while (example.find()) {
            Script.run(checks, "example: " + example.group(1), example.group(2));
            count++;
        }
        checks.isTrue("the document has examples", count > 0);
        checks.same("the examples that were run", text.split("\n- ").length - 1, count);
    }

    private static List<String> declared(String text, int group) {
        List<String> found = new ArrayList<>();
        Matcher declared = DECLARED.matcher(Document.onOneLine(text));
        while (declared.find()) {
            found.add(declared.group(group).trim());
        }
        return found;
    }

    private void compareFace() {
        List<String> due = declared(document.between("public final class SealedBoard {", "```"), 0);
        checks.isTrue("the document has a face", !due.isEmpty());
        checks.same("the face", due, declared(source, 0));
    }

    private void compareHeadings() {
        Matcher heading = HEADING.matcher(document.allOnOneLine());
        int count = 0;
        while (heading.find()) {
            List<String> due = Arrays.asList(heading.group(1).replaceAll("[`,]+$|`", "").split(", "));
            checks.same("the calls behind " + heading.group(2), due, callsBehind(heading.group(2)));
            count++;
        }
        checks.isTrue("the document has headings", count > 0);
    }

    /** The calls between a heading in the source and the next one. */
    private List<String> callsBehind(String heading) {
        String line = "\n    // " + heading + "\n";
        int from = source.indexOf(line);
        if (from < 0) {
            return List.of();
        }
        int start = from + line.length();
        int end = source.indexOf("\n    // ----", start);
        return declared(source.substring(start, end < 0 ? source.length() : end), 1);
    }
}
