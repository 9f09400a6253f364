import java.io.IOException;
import java.nio.file.Files;
import java.nio.file.Path;

/** Each sentence of the document that names a boundary case, in a test of its own with its promises' numbers. */
public final class EdgesTest {
    public static void main(String[] args) throws IOException {
        EdgesOfTree.run();
        EdgesOfSticks.run();
        EdgesOfThrows.run();
        EdgesOfWhere.run();
        EdgesOfNights.run();
        EdgesOfRunners.run();
        EdgesOfSeen.run();
        EdgesOfSheets.run();
        EdgesOfCounts.run();
        EdgesOfRefusals.run();
        Due.noSentence();
        everyPromiseIsNamed();
        theWordsAreTheDocuments();
        Due.end("EdgesTest, " + Due.quoted().size() + " sentences");
    }

    private static void everyPromiseIsNamed() {
        for (int promise = 1; promise <= 40; promise++) {
            Due.that("a sentence for promise " + promise, Due.promises().contains(promise));
        }
    }

    private static void theWordsAreTheDocuments() throws IOException {
        Path document = Path.of("../shared/DOC.md");
        if (!Files.isReadable(document)) {
            return;
        }
        String text = Files.readString(document).replaceAll("\\s+", " ");
        for (String words : Due.quoted()) {
            Due.that("the document says: " + words, text.contains(words));
        }
    }
}
