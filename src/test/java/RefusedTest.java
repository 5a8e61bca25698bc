import java.io.IOException;
import java.util.ArrayList;
import java.util.List;

/**
 * A call that throws changes nothing, for all promises: an object that never got such calls answers
 * all the others as one does that got them. Only WARNINGS are counted by calls that throw.
 */
public final class RefusedTest {
    private static final int RANDOM_RUNS = 300;
    private static final int CALLS = 360;
    private static final int MOST_CALLS = 512;

    private int refused = 0;
    private int wrong = 0;

    public static void main(String[] args) throws IOException {
        RefusedTest test = new RefusedTest();
        for (String folder : new String[] {"runs", "edges"}) {
            for (Run run : Run.all(folder)) {
                List<String> calls = new ArrayList<>();
                run.steps.forEach(step -> calls.add(step.call()));
                test.compare(run.file + " " + run.heading, calls);
            }
        }
        for (int seed = 1; seed <= RANDOM_RUNS; seed++) {
            test.compare("seed " + seed, randomCalls(seed));
        }
        System.out.println(test.refused + " refused calls, " + test.wrong + " wrong");
        System.exit(test.wrong == 0 && test.refused > 0 ? 0 : 1);
    }

    private static List<String> randomCalls(int seed) {
        RandomCalls random = new RandomCalls(seed);
        List<String> calls = new ArrayList<>();
        for (int i = 0; i < CALLS; i++) {
            calls.add(random.next());
        }
        return calls;
    }

    private void compare(String name, List<String> calls) {
        SyncHall hall = new SyncHall();
        SyncHall spared = new SyncHall();
        for (String call : calls) {
            String answer = Calls.answer(hall, call);
            if (answer.startsWith("throws.")) {
                refused++;
            } else {
                want(name, call, answer, Calls.answer(spared, call));
            }
        }
        List<String> questions = questions();
        // What an object answers after its last call is free.
        if (calls.size() + questions.size() > MOST_CALLS) {
            return;
        }
        for (String question : questions) {
            want(name, question, Calls.answer(hall, question), Calls.answer(spared, question));
        }
    }

    private static List<String> questions() {
        List<String> all = new ArrayList<>();
        for (int thread = 0; thread <= 5; thread++) {
            for (int what = 0; what <= 10; what++) {
                all.add("thread(" + thread + ", " + what + ")");
            }
        }
        for (int sync = 0; sync <= 7; sync++) {
            for (int what = 0; what <= 8; what++) {
                all.add("sync(" + sync + ", " + what + ")");
            }
            all.add("waited(" + sync + ")");
        }
        all.add("time()");
        return all;
    }

    private void want(String name, String call, String answer, String spared) {
        if (!answer.equals(spared) && !call.startsWith("policy(")) {
            wrong++;
            System.out.println(name + ": " + call + " answered " + answer
                    + ", but without the refused calls before it " + spared);
        }
    }
}
