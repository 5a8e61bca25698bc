import java.util.Random;
import java.util.StringJoiner;

/** Random runs of calls, always the same ones: SyncHall answers each call as PlainHall does. */
public final class ModelTest {
    private static final int RUNS = 3000;
    private static final int CALLS = 512;
    private static final int[] ODD = {-2147483648, -2, -1, 6, 7, 8, 9, 11, 2147483647};
    private static final String[] LIMITS = {"-1.0", "-0.5", "0.0", "0.0", "-0.0", "0.25", "1.0", "2.5", "1000.0"};
    private static final String[] ODD_DOUBLES = {
        "NaN", "Infinity", "-Infinity", "-1.0000001", "1000.0000001", "-1000.5", "-0.125"};
    private static final String[] TICKS = {"0.0", "-0.0", "0.1", "0.25", "0.75", "1.5", "1000.0"};
    private static final String[] RANKS = {"-1000.0", "-1.0", "-0.0", "0.0", "1.5", "1000.0"};

    private final Random random;
    private final int threads;
    private final int syncs;

    private ModelTest(int seed) {
        random = new Random(seed);
        threads = 2 + random.nextInt(5);
        syncs = 1 + random.nextInt(8);
    }

    public static void main(String[] args) {
        int wrong = 0;
        for (int seed = 1; seed <= RUNS && wrong < 5; seed++) {
            wrong += new ModelTest(seed).run(seed) ? 0 : 1;
        }
        System.out.println(RUNS + " runs against the model, " + wrong + " wrong");
        System.exit(wrong == 0 ? 0 : 1);
    }

    private boolean run(int seed) {
        SyncHall hall = new SyncHall();
        PlainHall model = new PlainHall();
        StringJoiner story = new StringJoiner("\n");
        for (int i = 0; i < CALLS; i++) {
            String call = i < syncs ? make(i) : nextCall();
            String got = Calls.answer(hall, call);
            String due = Calls.answer(model, call);
            story.add(call + " = " + got);
            if (!got.equals(due)) {
                System.out.println("seed " + seed + ", due is " + due + " in the end:\n" + story);
                return false;
            }
        }
        return true;
    }

    private String nextCall() {
        int chance = random.nextInt(100);
        if (chance < 30) {
            return "acquire(" + thread() + ", " + sync() + ", " + mode() + ", " + oneOf(LIMITS) + ")";
        }
        if (chance < 52) {
            return "release(" + thread() + ", " + sync() + ", " + mode() + ")";
        }
        if (chance < 62) {
            return "await(" + thread() + ", " + sync() + ", " + oneOf(LIMITS) + ")";
        }
        if (chance < 68) {
            return "signal(" + thread() + ", " + sync() + ", " + random.nextBoolean() + ")";
        }
        return chance < 85 ? rareCall() : question();
    }

    private String rareCall() {
        switch (random.nextInt(6)) {
            case 0:
                return make(number(8));
            case 1:
                return "rank(" + thread() + ", " + oneOf(RANKS) + ")";
            case 2:
            case 3:
                return "interrupt(" + thread() + ")";
            case 4:
                return "tick(" + oneOf(TICKS) + ")";
            default:
                return "policy(" + number(3) + ")";
        }
    }

    private String question() {
        switch (random.nextInt(5)) {
            case 0:
            case 1:
                return "thread(" + thread() + ", " + number(11) + ")";
            case 2:
                return "waited(" + sync() + ")";
            case 3:
                return "time()";
            default:
                return "sync(" + sync() + ", " + number(9) + ")";
        }
    }

    private String make(int sync) {
        int kind = random.nextInt(7);
        int a = kind == 6 ? number(8) : kind >= 2 && kind <= 4 ? number(6) : number(1);
        return "make(" + sync + ", " + kind + ", " + a + ")";
    }

    private int thread() {
        return number(threads);
    }

    private int sync() {
        return number(syncs);
    }

    private int mode() {
        return number(2);
    }

    private int number(int bound) {
        return random.nextInt(60) == 0 ? ODD[random.nextInt(ODD.length)] : random.nextInt(bound);
    }

    private String oneOf(String[] words) {
        String[] from = random.nextInt(60) == 0 ? ODD_DOUBLES : words;
        return from[random.nextInt(from.length)];
    }
}
