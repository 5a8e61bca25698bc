import java.io.IOException;
import java.util.List;

/** Plays the runs under src/test/runs, which use the calls of each promise together. */
public final class RunsTest {
    private static final int PROMISES = 14;

    public static void main(String[] args) throws IOException {
        List<Run> runs = Run.all("runs");
        int calls = 0;
        int wrong = 0;
        for (Run run : runs) {
            calls += run.steps.size();
            for (String text : run.wrongAnswers()) {
                wrong++;
                System.out.println("promise " + run.promise() + ", " + text);
            }
        }
        for (int promise = 1; promise <= PROMISES; promise++) {
            int number = promise;
            if (runs.stream().noneMatch(run -> run.promise() == number)) {
                wrong++;
                System.out.println("promise " + promise + " has no runs");
            }
        }
        System.out.println(calls + " calls in " + runs.size() + " runs, " + wrong + " wrong");
        System.exit(wrong == 0 ? 0 : 1);
    }
}
