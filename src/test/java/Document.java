import java.io.IOException;
import java.nio.file.Files;
import java.nio.file.Path;

/** The text of the document, and parts of it. */
final class Document {

    private final Checks checks;
    private final String text;

    private Document(Checks checks, String text) {
        this.checks = checks;
        this.text = text;
    }

    static Document readFrom(Checks checks, Path path) throws IOException {
        return new Document(checks, Files.readString(path));
    }

    static String onOneLine(String text) {
        return text.replaceAll("\\s+", " ").trim();
    }

    String allOnOneLine() {
        return onOneLine(text);
    }

    /** What stands between the first place of a start and the next place of an end. */
    String between(String start, String end) {
        int from = text.indexOf(start);
        int to = text.indexOf(end, Math.max(from, 0) + start.length());
        checks.isTrue("the document has " + start, from >= 0 && to >= 0);
        return from >= 0 && to >= 0 ? text.substring(from + start.length(), to) : "";
    }
}
