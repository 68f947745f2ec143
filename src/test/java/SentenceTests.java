import java.io.IOException;
import java.nio.file.Files;
import java.nio.file.Path;
import java.util.ArrayList;
import java.util.List;

/**
 * Runs what TermSentences and PromiseSentences hold, and looks whether the document says what they
 * quote, and whether each of its sentences has a test.
 */
final class SentenceTests {

    private static final String TERMS = "## Terms";
    private static final String EXAMPLES = "Examples: each one";
    private static final String PROMISE = "## Promise ";

    private final Checks checks;
    private final String document;

    private SentenceTests(Checks checks, String document) {
        this.checks = checks;
        this.document = document;
    }

    static void run(Checks checks, Path document) throws IOException {
        for (String[] run : TermSentences.RUNS) {
            Script.run(checks, run[0] + " (" + run[1] + ")", run[2]);
        }
        for (String[] run : PromiseSentences.RUNS) {
            Script.run(checks, "promise " + run[0] + ": " + run[1] + " (" + run[2] + ")", run[3]);
        }
        if (!Files.isReadable(document)) {
            System.out.println("not compared: there is no document at " + document);
            return;
        }
        SentenceTests tests = new SentenceTests(checks, Files.readString(document));
        tests.compareTerms();
        for (int number = 1; number <= 30; number++) {
            tests.comparePromise(number);
        }
    }

    private static String onOneLine(String text) {
        return text.replaceAll("\\s+", " ").trim();
    }

    private String between(String start, String end) {
        int from = document.indexOf(start);
        int to = document.indexOf(end, Math.max(from, 0) + start.length());
        checks.isTrue("the document has " + start, from >= 0 && to >= 0);
        return from >= 0 && to >= 0 ? document.substring(from + start.length(), to) : "";
    }

    private void compareTerms() {
        List<String> quotes = new ArrayList<>();
        String text = onOneLine(document);
        for (String[] run : TermSentences.RUNS) {
            checks.isTrue("the document says: " + run[0], text.contains(run[0]));
            quotes.add(run[0]);
        }
        quotes.addAll(UnchangedTests.SENTENCES);
        for (String sentence : onOneLine(between(TERMS, EXAMPLES)).split("(?<=\\.)\\s")) {
            // The terms have headings of one or two words, which tell nothing.
            boolean isHeading = sentence.split(" ").length <= 2;
            checks.isTrue("has a run: " + sentence, isHeading || isQuoted(sentence, quotes));
        }
    }

    private void comparePromise(int number) {
        String end = number < 30 ? PROMISE + (number + 1) + ":" : "## Not promised";
        String section = between(PROMISE + number + ":", end);
        List<String> quotes = new ArrayList<>();
        for (String[] run : PromiseSentences.RUNS) {
            if (run[0].equals(String.valueOf(number))) {
                checks.isTrue("promise " + number + " says: " + run[1], onOneLine(section).contains(run[1]));
                quotes.add(run[1]);
            }
        }
        for (String paragraph : section.split("\n\\s*\n")) {
            String text = onOneLine(paragraph);
            // The first line is the heading; what stands in a list tells the parameters.
            boolean isText = !text.isEmpty() && !text.startsWith("-") && section.indexOf(paragraph) > 0;
            checks.isTrue("promise " + number + " has a run: " + text, !isText || isQuoted(text, quotes));
        }
    }

    private static boolean isQuoted(String text, List<String> quotes) {
        for (String quote : quotes) {
            if (text.contains(quote)) {
                return true;
            }
        }
        return false;
    }
}
