import java.util.ArrayList;
import java.util.List;

/**
 * Runs what TermSentences and PromiseSentences hold, and looks whether the document says what they
 * quote, and whether each of its sentences has a test.
 */
final class SentenceTests {

    private static final String TERMS = "## Terms";
    private static final String EXAMPLES = "Examples: each one";
    private static final String PROMISE = "## Promise ";

    private final Checks checks;
    private final Document document;

    private SentenceTests(Checks checks, Document document) {
        this.checks = checks;
        this.document = document;
    }

    static void run(Checks checks) {
        for (String[] run : TermSentences.RUNS) {
            Script.run(checks, run[0] + " (" + run[1] + ")", run[2]);
        }
        for (String[] run : PromiseSentences.RUNS) {
            Script.run(checks, "promise " + run[0] + ": " + run[1] + " (" + run[2] + ")", run[3]);
        }
    }

    static void compare(Checks checks, Document document) {
        SentenceTests tests = new SentenceTests(checks, document);
        tests.compareTerms();
        for (int number = 1; number <= 30; number++) {
            tests.comparePromise(number);
        }
    }

    private void compareTerms() {
        List<String> quotes = new ArrayList<>();
        String text = document.allOnOneLine();
        for (String[] run : TermSentences.RUNS) {
            checks.isTrue("the document says: " + run[0], text.contains(run[0]));
            quotes.add(run[0]);
        }
        quotes.addAll(UnchangedTests.SENTENCES);
        for (String sentence : Document.onOneLine(document.between(TERMS, EXAMPLES)).split("(?<=\\.)\\s")) {
            // The terms have headings of one or two words, which tell nothing.
            boolean isHeading = sentence.split(" ").length <= 2;
            checks.isTrue("has a run: " + sentence, isHeading || isQuoted(sentence, quotes));
        }
    }

    private void comparePromise(int number) {
        String end = number < 30 ? PROMISE + (number + 1) + ":" : "## Not promised";
        String section = document.between(PROMISE + number + ":", end);
        List<String> quotes = new ArrayList<>();
        for (String[] run : PromiseSentences.RUNS) {
            if (run[0].equals(String.valueOf(number))) {
                checks.isTrue("promise " + number + " says: " + run[1], Document.onOneLine(section).contains(run[1]));
                quotes.add(run[1]);
            }
        }
        for (String paragraph : section.split("\n\\s*\n")) {
            String text = Document.onOneLine(paragraph);
            // The first line is the heading; what stands in a list tells the parameters.
            boolean isText = !text.isEmpty() && !text.startsWith("-") && section.indexOf(paragraph) > 0;
            checks.isTrue("promise " + number + " has a run: " + text, !isText || isQuoted(text, quotes));
        }
    }

    private static boolean isQuoted(String text, List<String> quotes) {
        for (String quote : quotes) {
            if (text.contains(quote)) {
                return true;
            }
        }
        return false;
    }
}
