import java.io.IOException;
import java.nio.charset.StandardCharsets;
import java.nio.file.Files;
import java.nio.file.Path;
import java.util.ArrayList;
import java.util.List;

/**
 * The sentences of the document that name a boundary case, each with a test of its own. A complaint of such a test
 * names the promise and the sentence, and every quotation must stand in the document.
 */
final class Sentences {
    private static final int PROMISES = 32;
    static final Path DOCUMENT = Path.of("../shared/DOC.md");

    private record Sentence(int promise, String words) {
    }

    private static final List<Sentence> TESTED = new ArrayList<>();

    private Sentences() {
    }

    /** Runs the test of one sentence, which stands in the description or at its promise. */
    static void test(int promise, String words, Runnable test) {
        TESTED.add(new Sentence(promise, words));
        Checks.begin("promise " + promise + ", \"" + words + "\": ");
        int before = Checks.count();
        try {
            test.run();
        } catch (RuntimeException e) {
            Checks.dueText("the test", "no exception", e.toString());
        }
        Checks.dueTrue("the test checks something", Checks.count() > before);
        Checks.begin("");
    }

    /** That each promise has such a test, and that nothing is quoted that the document does not say. */
    static void complete() throws IOException {
        for (int promise = 1; promise <= PROMISES; promise++) {
            int number = promise;
            Checks.dueTrue("promise " + number + " has a test of a boundary",
                    TESTED.stream().anyMatch(s -> s.promise == number));
        }
        if (Files.isReadable(DOCUMENT)) {
            quotations(Files.readString(DOCUMENT, StandardCharsets.UTF_8));
        }
    }

    private static void quotations(String document) {
        String[] parts = document.split("\n## Promise [0-9]+: ");
        Checks.due("the promises of the document", PROMISES, parts.length - 1);
        for (Sentence sentence : TESTED) {
            Checks.dueTrue("promise " + sentence.promise + " quotes the document: " + sentence.words,
                    parts[0].contains(sentence.words) || parts[sentence.promise].contains(sentence.words));
        }
    }

    static String summary() {
        return TESTED.size() + " sentences";
    }
}
