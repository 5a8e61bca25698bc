import java.util.ArrayList;
import java.util.List;
import java.util.NoSuchElementException;

/**
 * The document once more, sentence by sentence and without a thought of speed or of LANGUAGE.md:
 * what SyncHall is held against in ModelTest.
 */
final class PlainHall {
    private static final class Waiter {
        int thread;
        int mode;
        double end = Double.POSITIVE_INFINITY;
        double since;
        int takesBack = 0;
        int outcome = 1;
    }

    private static final class Thing {
        int kind;
        int lock;
        int amount;
        int holder = -1;
        int depth = 0;
        int[] reads = new int[6];
        List<Waiter> waiters = new ArrayList<>();
        List<Double> waited = new ArrayList<>();
    }

    private final Thing[] things = new Thing[8];
    private final boolean[][] before = new boolean[8][8];
    private final boolean[] flag = new boolean[6];
    private final double[] priority = new double[6];
    private final int[] outcome = {-1, -1, -1, -1, -1, -1};
    private int policy = 0;
    private int warnings = 0;
    private double time = 0.0;

    int make(int sync, int kind, int a) {
        int greatest = kind == 6 ? 7 : kind >= 2 && kind <= 4 ? 5 : 0;
        range(sync >= 0 && sync <= 7 && kind >= 0 && kind <= 6 && a >= 0 && a <= greatest);
        if (kind == 6 && (things[a] == null || things[a].kind > 1)) {
            throw new NoSuchElementException();
        }
        if (things[sync] != null) {
            throw new IllegalStateException();
        }
        Thing thing = new Thing();
        thing.kind = kind;
        thing.lock = kind == 6 ? a : -1;
        thing.amount = kind == 6 ? 0 : a;
        things[sync] = thing;
        int there = 0;
        for (Thing each : things) {
            there += each == null ? 0 : 1;
        }
        return there;
    }

    void rank(int thread, double rank) {
        range(thread >= 0 && thread <= 5 && rank >= -1000.0 && rank <= 1000.0);
        priority[thread] = rank;
    }

    int acquire(int thread, int sync, int mode, double limit) {
        range(thread >= 0 && thread <= 5 && sync >= 0 && sync <= 7 && (mode == 0 || mode == 1));
        range(limit >= -1.0 && limit <= 1000.0);
        Thing thing = there(sync);
        running(thread);
        supported(thing.kind != 6);
        if (flag[thread]) {
            flag[thread] = false;
            return outcome[thread] = 3;
        }
        watch(thread, sync);
        supported(!(thing.kind == 5 && mode == 1 && thing.reads[thread] > 0 && thing.holder != thread));
        if (!mustQueue(thing, thread, mode) && canTake(thing, thread, mode)) {
            take(thing, thread, mode, 1);
            return outcome[thread] = 1;
        }
        if (limit == 0.0) {
            return outcome[thread] = 2;
        }
        block(thing, thread, mode, limit);
        return 0;
    }

    int release(int thread, int sync, int mode) {
        range(thread >= 0 && thread <= 5 && sync >= 0 && sync <= 7 && (mode == 0 || mode == 1));
        Thing thing = there(sync);
        running(thread);
        supported(thing.kind != 6);
        boolean byHolder = thing.kind <= 1 || thing.kind == 5 && mode == 1;
        boolean byReader = thing.kind == 5 && mode == 0;
        if (byHolder && thing.holder != thread || byReader && thing.reads[thread] == 0) {
            throw new IllegalStateException();
        }
        int waiters = thing.waiters.size();
        if (byHolder) {
            thing.depth--;
            thing.holder = thing.depth == 0 ? -1 : thread;
        } else if (byReader) {
            thing.reads[thread]--;
        } else if (thing.kind == 4) {
            thing.amount = Math.max(0, thing.amount - 1);
        } else {
            supported(thing.amount != 100);
            thing.amount++;
        }
        serve(thing);
        return waiters;
    }

    int await(int thread, int sync, double limit) {
        range(thread >= 0 && thread <= 5 && sync >= 0 && sync <= 7 && limit >= -1.0 && limit <= 1000.0);
        Thing condition = owned(thread, sync);
        Thing lock = things[condition.lock];
        if (flag[thread]) {
            flag[thread] = false;
            return outcome[thread] = 3;
        }
        Waiter waiter = block(condition, thread, 0, limit);
        waiter.takesBack = lock.depth;
        lock.holder = -1;
        lock.depth = 0;
        if (limit == 0.0) {
            queue(condition, waiter, 2);
        } else {
            serve(lock);
        }
        return outcome[thread];
    }

    int signal(int thread, int sync, boolean all) {
        range(thread >= 0 && thread <= 5 && sync >= 0 && sync <= 7);
        Thing condition = owned(thread, sync);
        int signalled = 0;
        while (!condition.waiters.isEmpty() && (all || signalled == 0)) {
            Waiter first = condition.waiters.get(0);
            condition.waited.add(time - first.since);
            queue(condition, first, 1);
            signalled++;
        }
        return signalled;
    }

    int interrupt(int thread) {
        range(thread >= 0 && thread <= 5);
        Thing place = placeOf(thread);
        if (place == null || place.kind != 6 && waiterOf(place, thread).takesBack > 0) {
            flag[thread] = true;
        } else {
            leave(place, waiterOf(place, thread), 3);
        }
        return outcome[thread];
    }

    int tick(double by) {
        range(by >= 0.0 && by <= 1000.0);
        time += by;
        for (int late = 0;; late++) {
            int next = -1;
            double least = time;
            for (int t = 5; t >= 0; t--) {
                Thing place = placeOf(t);
                if (place != null && waiterOf(place, t).end <= least) {
                    least = waiterOf(place, t).end;
                    next = t;
                }
            }
            if (next < 0) {
                return late;
            }
            leave(placeOf(next), waiterOf(placeOf(next), next), 2);
        }
    }

    int policy(int chosen) {
        range(chosen >= 0 && chosen <= 2);
        policy = chosen;
        return warnings;
    }

    int thread(int thread, int what) {
        range(thread >= 0 && thread <= 5 && what >= 0 && what <= 10);
        if (what < 3) {
            return what == 0 ? placeOf(thread) == null ? 0 : 1 : what == 1 ? outcome[thread] : flag[thread] ? 1 : 0;
        }
        Thing thing = things[what - 3];
        return thing == null ? 0 : (thing.holder == thread ? thing.depth : 0) + thing.reads[thread];
    }

    int sync(int sync, int what) {
        range(sync >= 0 && sync <= 7 && what >= 0 && what <= 8);
        Thing thing = there(sync);
        if (what == 0) {
            return thing.kind;
        }
        if (what == 1) {
            return thing.waiters.size();
        }
        if (what == 8) {
            return thing.amount;
        }
        return what - 2 < thing.waiters.size() ? thing.waiters.get(what - 2).thread : -1;
    }

    double waited(int sync) {
        range(sync >= 0 && sync <= 7);
        Thing thing = there(sync);
        if (thing.waited.isEmpty()) {
            throw new ArithmeticException();
        }
        double sum = 0.0;
        for (double each : thing.waited) {
            sum += each;
        }
        return sum / thing.waited.size();
    }

    double time() {
        return time;
    }

    private static void range(boolean inside) {
        if (!inside) {
            throw new IllegalArgumentException();
        }
    }

    private static void supported(boolean so) {
        if (!so) {
            throw new UnsupportedOperationException();
        }
    }

    private Thing there(int sync) {
        if (things[sync] == null) {
            throw new NoSuchElementException();
        }
        return things[sync];
    }

    private void running(int thread) {
        if (placeOf(thread) != null) {
            throw new IllegalStateException();
        }
    }

    private Thing owned(int thread, int sync) {
        Thing condition = there(sync);
        running(thread);
        supported(condition.kind == 6);
        if (things[condition.lock].holder != thread) {
            throw new IllegalStateException();
        }
        return condition;
    }

    private Thing placeOf(int thread) {
        for (Thing thing : things) {
            if (thing != null && waiterOf(thing, thread) != null) {
                return thing;
            }
        }
        return null;
    }

    private static Waiter waiterOf(Thing thing, int thread) {
        return thing.waiters.stream().filter(waiter -> waiter.thread == thread).findFirst().orElse(null);
    }

    private Waiter block(Thing thing, int thread, int mode, double limit) {
        Waiter waiter = new Waiter();
        waiter.thread = thread;
        waiter.mode = mode;
        waiter.since = time;
        if (limit > 0.0) {
            waiter.end = time + limit;
        }
        thing.waiters.add(waiter);
        outcome[thread] = 0;
        return waiter;
    }

    private void queue(Thing condition, Waiter waiter, int result) {
        condition.waiters.remove(waiter);
        Thing lock = things[condition.lock];
        waiter.outcome = result;
        waiter.since = time;
        waiter.end = Double.POSITIVE_INFINITY;
        lock.waiters.add(waiter);
        serve(lock);
    }

    private void leave(Thing place, Waiter waiter, int result) {
        if (place.kind == 6) {
            queue(place, waiter, result);
        } else {
            place.waiters.remove(waiter);
            outcome[waiter.thread] = result;
            serve(place);
        }
    }

    private void serve(Thing thing) {
        while (!thing.waiters.isEmpty()) {
            Waiter next = next(thing);
            if (!canTake(thing, next.thread, next.mode)) {
                return;
            }
            thing.waiters.remove(next);
            take(thing, next.thread, next.mode, Math.max(1, next.takesBack));
            outcome[next.thread] = next.outcome;
            thing.waited.add(time - next.since);
        }
    }

    private Waiter next(Thing thing) {
        Waiter next = thing.waiters.get(0);
        for (Waiter waiter : thing.waiters) {
            boolean ranksMore = thing.kind == 3 && priority[waiter.thread] > priority[next.thread];
            boolean writesFirst = thing.kind == 5 && waiter.mode == 1 && next.mode == 0;
            next = ranksMore || writesFirst ? waiter : next;
        }
        return next;
    }

    private static boolean canTake(Thing thing, int thread, int mode) {
        switch (thing.kind) {
            case 0:
                return thing.holder == -1;
            case 1:
                return thing.holder == -1 || thing.holder == thread;
            case 2:
            case 3:
                return thing.amount > 0;
            case 4:
                return thing.amount == 0;
            default:
                int others = 0;
                for (int t = 0; t < 6; t++) {
                    others += t != thread && mode == 1 ? thing.reads[t] : 0;
                }
                return (thing.holder == -1 || thing.holder == thread) && others == 0;
        }
    }

    private static void take(Thing thing, int thread, int mode, int depth) {
        if (thing.kind <= 1 || thing.kind == 5 && mode == 1) {
            thing.holder = thread;
            thing.depth += depth;
        } else if (thing.kind <= 3) {
            thing.amount--;
        } else if (thing.kind == 5) {
            thing.reads[thread]++;
        }
    }

    private static boolean mustQueue(Thing thing, int thread, int mode) {
        boolean any = !thing.waiters.isEmpty();
        switch (thing.kind) {
            case 1:
                return any && thing.holder != thread;
            case 4:
                return false;
            case 5:
                boolean inside = thing.reads[thread] > 0 || thing.holder == thread;
                boolean writes = thing.waiters.stream().anyMatch(waiter -> waiter.mode == 1);
                return !inside && (mode == 0 ? writes : any);
            default:
                return any;
        }
    }

    private void watch(int thread, int sync) {
        if (policy == 0 || things[sync].kind > 1 || things[sync].holder == thread) {
            return;
        }
        boolean warned = false;
        for (int s = 0; s < 8; s++) {
            warned |= owns(thread, s) && leads(sync, s, new boolean[8]);
        }
        warnings += warned ? 1 : 0;
        supported(!(warned && policy == 2));
        for (int s = 0; s < 8; s++) {
            before[s][sync] |= owns(thread, s);
        }
    }

    private boolean owns(int thread, int sync) {
        return things[sync] != null && things[sync].kind <= 1 && things[sync].holder == thread;
    }

    private boolean leads(int from, int to, boolean[] seen) {
        seen[from] = true;
        for (int s = 0; s < 8; s++) {
            if (before[from][s] && (s == to || !seen[s] && leads(s, to, seen))) {
                return true;
            }
        }
        return false;
    }
}
