import java.util.Random;

/** Random calls, the same ones for the same seed; some of them have wrong arguments. */
final class RandomCalls {
    private static final int[] ODD = {-2147483648, -2, -1, 6, 7, 8, 9, 11, 2147483647};
    private static final String[] LIMITS = {"-1.0", "-0.5", "0.0", "0.0", "-0.0", "0.25", "1.0", "2.5", "1000.0"};
    private static final String[] ODD_DOUBLES = {
        "NaN", "Infinity", "-Infinity", "-1.0000001", "1000.0000001", "-1000.5", "-0.125"};
    private static final String[] TICKS = {"0.0", "-0.0", "0.1", "0.25", "0.75", "1.5", "1000.0"};
    private static final String[] RANKS = {"-1000.0", "-1.0", "-0.0", "0.0", "1.5", "1000.0"};

    private final Random random;
    private final int threads;
    private final int syncs;
    private int made = 0;

    RandomCalls(int seed) {
        random = new Random(seed);
        threads = 2 + random.nextInt(5);
        syncs = 1 + random.nextInt(8);
    }

    /** The next call: first those that make SYNCS, so that there is something to use. */
    String next() {
        if (made < syncs) {
            made++;
            return make(made - 1);
        }
        return anyCall();
    }

    private String anyCall() {
        int chance = random.nextInt(100);
        if (chance < 30) {
            return "acquire(" + thread() + ", " + sync() + ", " + mode() + ", " + oneOf(LIMITS) + ")";
        }
        if (chance < 52) {
            return "release(" + thread() + ", " + sync() + ", " + mode() + ")";
        }
        if (chance < 62) {
            return "await(" + thread() + ", " + sync() + ", " + oneOf(LIMITS) + ")";
        }
        if (chance < 68) {
            return "signal(" + thread() + ", " + sync() + ", " + random.nextBoolean() + ")";
        }
        return chance < 85 ? rareCall() : question();
    }

    private String rareCall() {
        switch (random.nextInt(6)) {
            case 0:
                return make(number(8));
            case 1:
                return "rank(" + thread() + ", " + oneOf(RANKS) + ")";
            case 2:
            case 3:
                return "interrupt(" + thread() + ")";
            case 4:
                return "tick(" + oneOf(TICKS) + ")";
            default:
                return "policy(" + number(3) + ")";
        }
    }

    private String question() {
        switch (random.nextInt(5)) {
            case 0:
            case 1:
                return "thread(" + thread() + ", " + number(11) + ")";
            case 2:
                return "waited(" + sync() + ")";
            case 3:
                return "time()";
            default:
                return "sync(" + sync() + ", " + number(9) + ")";
        }
    }

    private String make(int sync) {
        int kind = random.nextInt(7);
        int a = kind == 6 ? number(8) : kind >= 2 && kind <= 4 ? number(6) : number(1);
        return "make(" + sync + ", " + kind + ", " + a + ")";
    }

    private int thread() {
        return number(threads);
    }

    private int sync() {
        return number(syncs);
    }

    private int mode() {
        return number(2);
    }

    private int number(int bound) {
        return random.nextInt(60) == 0 ? ODD[random.nextInt(ODD.length)] : random.nextInt(bound);
    }

    private String oneOf(String[] words) {
        String[] from = random.nextInt(60) == 0 ? ODD_DOUBLES : words;
        return from[random.nextInt(from.length)];
    }
}
