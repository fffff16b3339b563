import java.io.IOException;
import java.nio.file.Files;
import java.nio.file.Path;

/**
 * Answers gathered by the sentence of the document that asks for them. A sentence that is named must stand in
 * the document, under its heading, and must have an answer that is held against it.
 */
final class Sentences {
    private static final Path DOCUMENT = Path.of("../shared/DOC.md");

    private final Check check;
    private final String document;
    private String sentence = "";
    private int answers = 1;

    Sentences(String name) {
        check = new Check(name);
        document = readDocument();
    }

    private static String readDocument() {
        try {
            return Files.readString(DOCUMENT);
        } catch (IOException e) {
            System.out.println("no " + DOCUMENT + ": its sentences are not looked up");
            return null;
        }
    }

    /** The answers that follow are held against a sentence under "What it is", or under "Terms". */
    void says(String quote) {
        begin("Terms", "# ArchTrades", "## Promise 1:", quote);
    }

    /** The answers that follow are held against a sentence of a promise. */
    void says(int promise, String quote) {
        begin("Promise " + promise, "## Promise " + promise + ":", "\n## ", quote);
    }

    private void begin(String name, String from, String to, String quote) {
        check.holds("an answer is held against " + sentence, answers > 0);
        answers = 0;
        sentence = name + ", '" + quote + "'";
        if (document != null) {
            int start = document.indexOf(from);
            int end = start < 0 ? -1 : document.indexOf(to, start);
            check.holds("the document says " + sentence, end >= 0 && document.substring(start, end).contains(quote));
        }
    }

    void due(String call, long got, long want) {
        answers++;
        check.due(sentence + ": " + call, got, want);
    }

    void same(String call, String got, String want) {
        answers++;
        check.holds(sentence + ": " + call + " answered " + got + ", due is " + want + ":", got.equals(want));
    }

    void end() {
        check.holds("an answer is held against " + sentence, answers > 0);
        check.end();
    }
}
