import java.io.IOException;
import java.nio.file.Files;
import java.nio.file.Path;
import java.util.TreeSet;

/**
 * Tests of one sentence each. A sentence is told as it stands in the document, and is looked up there, so that a
 * test can't be of something that the document doesn't say.
 */
final class Edge {
    private static final Path DOCUMENT = Path.of("../shared/DOC.md");

    final Check check = new Check();
    private final String document;
    private final TreeSet<Integer> promises = new TreeSet<>();
    private int sentences = 0;

    Edge() throws IOException {
        document = Files.exists(DOCUMENT) ? squeezed(Files.readString(DOCUMENT)) : null;
    }

    /** A new run of calls that holds a sentence of the terms. */
    Run of(String sentence) {
        sentences++;
        if (document != null) {
            String terms = document.substring(document.indexOf("## Terms"), document.indexOf("## Promise 1:"));
            check.due("the document's terms say '" + sentence + "'", terms.contains(sentence), true);
        }
        return new Run(check, sentence);
    }

    /** A new run of calls that holds a sentence of a promise. */
    Run promise(int number, String sentence) {
        sentences++;
        promises.add(number);
        if (document != null) {
            int from = document.indexOf("## Promise " + number + ":");
            int to = document.indexOf("## ", from + 3);
            check.due("promise " + number + " says '" + sentence + "'", document.substring(from, to).contains(sentence), true);
        }
        return new Run(check, "P" + number + " " + sentence);
    }

    void everyPromiseHasOne(int last) {
        for (int number = 1; number <= last; number++) {
            check.due("promise " + number + " has a test of its own", promises.contains(number), true);
        }
    }

    void end(String name) {
        check.end(name + (document == null ? " (without the document beside it)" : "") + ", of " + sentences + " sentences");
    }

    private static String squeezed(String text) {
        return text.replaceAll("\\s+", " ");
    }
}
