import java.io.IOException;
import java.nio.file.Files;
import java.nio.file.Path;
import java.util.Set;
import java.util.TreeSet;

/**
 * Runs all of the project's own tests; ends with exit code 1 if one fails. Its arguments are the
 * paths of SealedBoard.java, of the document and of README.md.
 */
public final class AllTests {

    private static final int PROMISES = 30;

    private AllTests() {
    }

    public static void main(String[] args) throws IOException {
        Checks checks = new Checks();
        Set<Integer> promises = new TreeSet<>();
        for (String[][] runs : new String[][][] {
            SettingUpRuns.RUNS, TurnRuns.RUNS, RoomRuns.RUNS, TextRuns.RUNS, AccountRuns.RUNS}) {
            for (String[] run : runs) {
                promises.add(Integer.valueOf(run[0]));
                Script.run(checks, "promise " + run[0] + ", " + run[1], run[2]);
            }
        }
        checks.same("the promises that have runs", PROMISES, promises.size());
        RangeTests.run(checks);
        UnchangedTests.run(checks);
        SentenceTests.run(checks);
        compareWithDocument(checks, Path.of(args[1]), Path.of(args[0]));
        ReadmeTests.run(checks, Path.of(args[2]));
        FaceTests.run(checks);
        SourceTests.run(checks, Path.of(args[0]));
        PlainBoardTests.run(checks);
        System.out.println(checks.passed() + " passed, " + checks.failed() + " failed");
        if (checks.failed() > 0) {
            System.exit(1);
        }
    }

    private static void compareWithDocument(Checks checks, Path path, Path source) throws IOException {
        // Where the tests run, there may be the tests of ../shared alone.
        if (!Files.isReadable(path)) {
            System.out.println("not compared: there is no document at " + path);
            return;
        }
        Document document = Document.readFrom(checks, path);
        SentenceTests.compare(checks, document);
        DocumentTests.run(checks, document, source);
    }
}
