import java.io.IOException;
import java.util.List;
import java.util.stream.Collectors;

/**
 * Plays the tests under src/test/edges, each of them headed by its promise and by the words of the
 * document that it tests. It wants these words to stand there, and every sentence to have a test.
 */
public final class EdgesTest {
    private int wrong = 0;

    public static void main(String[] args) throws IOException {
        List<Run> runs = Run.all("edges");
        Document document = Document.read();
        EdgesTest test = new EdgesTest();
        runs.forEach(test::play);
        runs.forEach(run -> test.wantHeading(run, document));
        test.wantEverySentence(runs, document);
        long sentences = runs.stream().map(run -> run.heading).distinct().count();
        System.out.println(sentences + " edges in " + runs.size() + " runs, " + test.wrong + " wrong");
        System.exit(test.wrong == 0 ? 0 : 1);
    }

    private void play(Run run) {
        for (String text : run.wrongAnswers()) {
            fail(run.heading + "\n    " + text);
        }
    }

    private void wantHeading(Run run, Document document) {
        if (!run.heading.startsWith("Promise " + run.promise() + ": ")) {
            fail(run.file + " has a test of another promise: " + run.heading);
        }
        if (!document.says(run.promise(), quote(run))) {
            fail(run.file + " tests what the document does not say: " + run.heading);
        }
    }

    private void wantEverySentence(List<Run> runs, Document document) {
        for (int promise = 1; promise <= document.promiseCount(); promise++) {
            int number = promise;
            List<String> quotes = runs.stream().filter(run -> run.promise() == number)
                    .map(EdgesTest::quote).collect(Collectors.toList());
            for (String sentence : Document.untouched(document.ofPromise(promise), quotes)) {
                fail("Promise " + promise + " has no test of: " + sentence);
            }
        }
        List<String> all = runs.stream().map(EdgesTest::quote).collect(Collectors.toList());
        for (String sentence : Document.untouched(document.terms(), all)) {
            fail("no promise has a test of: " + sentence);
        }
    }

    private static String quote(Run run) {
        return run.heading.substring(run.heading.indexOf(':') + 2);
    }

    private void fail(String text) {
        wrong++;
        System.out.println(text);
    }
}
