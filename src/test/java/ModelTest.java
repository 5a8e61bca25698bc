import java.util.StringJoiner;

/** Random runs of calls, always the same ones: SyncHall answers each call as PlainHall does. */
public final class ModelTest {
    private static final int RUNS = 3000;
    private static final int CALLS = 512;

    public static void main(String[] args) {
        int wrong = 0;
        for (int seed = 1; seed <= RUNS && wrong < 5; seed++) {
            wrong += agree(seed) ? 0 : 1;
        }
        System.out.println(RUNS + " runs against the model, " + wrong + " wrong");
        System.exit(wrong == 0 ? 0 : 1);
    }

    private static boolean agree(int seed) {
        RandomCalls calls = new RandomCalls(seed);
        SyncHall hall = new SyncHall();
        PlainHall model = new PlainHall();
        StringJoiner story = new StringJoiner("\n");
        for (int i = 0; i < CALLS; i++) {
            String call = calls.next();
            String got = Calls.answer(hall, call);
            String due = Calls.answer(model, call);
            story.add(call + " = " + got);
            if (!got.equals(due)) {
                System.out.println("seed " + seed + ", due is " + due + " in the end:\n" + story);
                return false;
            }
        }
        return true;
    }
}
