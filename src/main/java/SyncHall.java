import java.util.NoSuchElementException;

/**
 * Locks, semaphores, latches, locks for readers and writers, and condition variables for threads,
 * with limits of time, interruption, priorities, and a watch over the order in which locks are taken.
 * Words in capitals are the document's.
 */
public final class SyncHall {
    private static final int THREADS = 6;
    private static final int SYNCS = 8;

    private static final int MUTEX = 0;
    private static final int REENTRANT = 1;
    private static final int FIFO = 2;
    private static final int RANKED = 3;
    private static final int LATCH = 4;
    private static final int SHARED = 5;
    private static final int CONDITION = 6;

    private static final int READ = 0;
    private static final int WRITE = 1;
    private static final int NO_MODE = 0;

    private static final int NO_OUTCOME = -1;
    private static final int STILL_BLOCKED = 0;
    private static final int GOT = 1;
    private static final int LATE = 2;
    private static final int INTERRUPTED = 3;

    private static final int ORDER_UNWATCHED = 0;
    private static final int ORDER_REFUSES = 2;

    private static final int MOST_AT_FIRST = 5;
    private static final int MOST_PERMITS = 100;
    private static final int GREATEST_PRIORITY = 1000;
    private static final int WITHOUT_LIMIT = -1;
    private static final int LONGEST = 1000;

    private static final int ASK_BLOCKED = 0;
    private static final int ASK_OUTCOME = 1;
    private static final int ASK_FLAG = 2;
    private static final int ASK_HOLD = 3;

    private static final int ASK_KIND = 0;
    private static final int ASK_WAITERS = 1;
    private static final int ASK_WAITER = 2;
    private static final int ASK_AMOUNT = 8;

    private final Worker[] workers;
    private final Sync[] syncs;
    private final LockOrder order;
    private int syncCount;
    private double now;

    public SyncHall() {
        workers = new Worker[THREADS];
        for (int i = 0; i < THREADS; i++) {
            workers[i] = new Worker(i);
        }
        syncs = new Sync[SYNCS];
        order = new LockOrder();
        syncCount = 0;
        now = 0.0;
    }

    public int make(int sync, int kind, int a)
            throws IllegalArgumentException, NoSuchElementException, IllegalStateException {
        checkNumber(sync, 0, SYNCS - 1);
        checkNumber(kind, MUTEX, CONDITION);
        checkNumber(a, 0, greatestFor(kind));
        Lock lock = kind == CONDITION ? lockAt(a) : null;
        if (syncs[sync] != null) {
            throw new IllegalStateException("the sync is there");
        }
        syncs[sync] = newSync(kind, a, lock);
        syncCount++;
        return syncCount;
    }

    public void rank(int thread, double priority) throws IllegalArgumentException {
        Worker worker = workerAt(thread);
        checkAmount(priority, -GREATEST_PRIORITY, GREATEST_PRIORITY);
        worker.priority = priority;
    }

    public int acquire(int thread, int sync, int mode, double limit)
            throws IllegalArgumentException, NoSuchElementException, IllegalStateException,
            UnsupportedOperationException {
        Worker worker = workerAt(thread);
        checkNumber(mode, READ, WRITE);
        checkAmount(limit, WITHOUT_LIMIT, LONGEST);
        Sync wanted = syncAt(sync);
        checkRunning(worker);
        Gate gate = gateOf(wanted);
        if (worker.dropFlag()) {
            return worker.finish(INTERRUPTED);
        }
        keepOrder(worker, gate, sync);
        gate.checkWish(worker, mode);
        if (!gate.mustQueue(worker, mode) && gate.canTake(worker, mode)) {
            gate.take(worker, mode, 1);
            return worker.finish(GOT);
        }
        if (limit == 0.0) {
            return worker.finish(LATE);
        }
        worker.depthDue = 1;
        worker.outcomeDue = GOT;
        gate.enqueue(worker, mode, now);
        worker.setEnd(now, limit);
        return worker.outcome;
    }

    public int release(int thread, int sync, int mode)
            throws IllegalArgumentException, NoSuchElementException, IllegalStateException,
            UnsupportedOperationException {
        Worker worker = workerAt(thread);
        checkNumber(mode, READ, WRITE);
        Sync held = syncAt(sync);
        checkRunning(worker);
        Gate gate = gateOf(held);
        int waitersBefore = gate.waiters.size();
        gate.giveBack(worker, mode);
        gate.serve(now);
        return waitersBefore;
    }

    public int await(int thread, int sync, double limit)
            throws IllegalArgumentException, NoSuchElementException, IllegalStateException,
            UnsupportedOperationException {
        Worker worker = workerAt(thread);
        checkAmount(limit, WITHOUT_LIMIT, LONGEST);
        Condition condition = conditionFor(worker, sync);
        if (worker.dropFlag()) {
            return worker.finish(INTERRUPTED);
        }
        Lock lock = condition.lock;
        worker.depthDue = lock.depth;
        lock.free();
        if (limit == 0.0) {
            queueForLock(worker, lock, LATE);
        } else {
            condition.enqueue(worker, NO_MODE, now);
            worker.setEnd(now, limit);
            lock.serve(now);
        }
        return worker.outcome;
    }

    public int signal(int thread, int sync, boolean all)
            throws IllegalArgumentException, NoSuchElementException, IllegalStateException,
            UnsupportedOperationException {
        Worker worker = workerAt(thread);
        Condition condition = conditionFor(worker, sync);
        int due = condition.waiters.size();
        if (!all && due > 1) {
            due = 1;
        }
        for (int i = 0; i < due; i++) {
            signalFirst(condition);
        }
        return due;
    }

    public int interrupt(int thread) throws IllegalArgumentException {
        Worker worker = workerAt(thread);
        if (!worker.isBlocked() || worker.takesBack) {
            worker.flag = true;
        } else {
            giveUp(worker, INTERRUPTED);
        }
        return worker.outcome;
    }

    public int tick(double by) throws IllegalArgumentException {
        checkAmount(by, 0, LONGEST);
        now = now + by;
        int late = 0;
        // Nobody gets a new END while time goes on, so each THREAD is LATE once at most.
        for (int i = 0; i < THREADS; i++) {
            Worker worker = nextLate();
            if (worker == null) {
                break;
            }
            giveUp(worker, LATE);
            late++;
        }
        return late;
    }

    public int policy(int policy) throws IllegalArgumentException {
        checkNumber(policy, ORDER_UNWATCHED, ORDER_REFUSES);
        order.policy = policy;
        return order.warnings;
    }

    public int thread(int thread, int what) throws IllegalArgumentException {
        Worker worker = workerAt(thread);
        checkNumber(what, ASK_BLOCKED, ASK_HOLD + SYNCS - 1);
        switch (what) {
            case ASK_BLOCKED:
                return worker.isBlocked() ? 1 : 0;
            case ASK_OUTCOME:
                return worker.outcome;
            case ASK_FLAG:
                return worker.flag ? 1 : 0;
            default:
                Sync held = syncs[what - ASK_HOLD];
                return held == null ? 0 : held.holdOf(worker);
        }
    }

    public int sync(int sync, int what) throws IllegalArgumentException, NoSuchElementException {
        checkNumber(what, ASK_KIND, ASK_AMOUNT);
        Sync asked = syncAt(sync);
        switch (what) {
            case ASK_KIND:
                return asked.kind;
            case ASK_WAITERS:
                return asked.waiters.size();
            case ASK_AMOUNT:
                return asked.amount();
            default:
                Worker waiter = asked.waiters.at(what - ASK_WAITER);
                return waiter == null ? -1 : waiter.number;
        }
    }

    public double waited(int sync)
            throws IllegalArgumentException, NoSuchElementException, ArithmeticException {
        Sync asked = syncAt(sync);
        if (asked.waitedCount <= 0) {
            throw new ArithmeticException("nobody has waited");
        }
        return asked.waitedSum / asked.waitedCount;
    }

    public double time() {
        return now;
    }

    private static void checkNumber(int number, int least, int greatest) {
        if (number < least || number > greatest) {
            throw new IllegalArgumentException("a number out of range");
        }
    }

    private static void checkAmount(double amount, int least, int greatest) {
        // Asked this way round, so that NaN is out of range too.
        if (!(amount >= least && amount <= greatest)) {
            throw new IllegalArgumentException("an amount out of range");
        }
    }

    private static void checkRunning(Worker worker) {
        if (worker.isBlocked()) {
            throw new IllegalStateException("the thread is blocked");
        }
    }

    private Worker workerAt(int number) {
        checkNumber(number, 0, THREADS - 1);
        return workers[number];
    }

    private Sync syncAt(int number) {
        checkNumber(number, 0, SYNCS - 1);
        Sync found = syncs[number];
        if (found == null) {
            throw new NoSuchElementException("the sync is not there");
        }
        return found;
    }

    private Lock lockAt(int number) {
        if (syncAt(number) instanceof Lock lock) {
            return lock;
        }
        throw new NoSuchElementException("no lock is there");
    }

    private static Gate gateOf(Sync sync) {
        if (sync instanceof Gate gate) {
            return gate;
        }
        throw new UnsupportedOperationException("a condition is not taken or given back");
    }

    private Condition conditionFor(Worker worker, int number) {
        Sync found = syncAt(number);
        checkRunning(worker);
        if (found instanceof Condition condition) {
            checkOwner(worker, condition.lock);
            return condition;
        }
        throw new UnsupportedOperationException("the sync is no condition");
    }

    private static void checkOwner(Worker worker, Lock lock) {
        if (lock.owner != worker) {
            throw new IllegalStateException("the thread does not own the lock");
        }
    }

    private static int greatestFor(int kind) {
        switch (kind) {
            case FIFO:
            case RANKED:
            case LATCH:
                return MOST_AT_FIRST;
            case CONDITION:
                return SYNCS - 1;
            default:
                return 0;
        }
    }

    private static Sync newSync(int kind, int a, Lock lock) {
        switch (kind) {
            case MUTEX:
            case REENTRANT:
                return new Lock(kind);
            case FIFO:
            case RANKED:
                return new Semaphore(kind, a);
            case LATCH:
                return new Latch(a);
            case SHARED:
                return new Shared();
            default:
                return new Condition(lock);
        }
    }

    private void keepOrder(Worker worker, Gate wanted, int number) {
        if (order.policy == ORDER_UNWATCHED || !(wanted instanceof Lock) || wanted.holdOf(worker) > 0) {
            return;
        }
        int owned = locksOwnedBy(worker);
        if (order.isBeforeAny(number, owned)) {
            order.warnings++;
            if (order.policy == ORDER_REFUSES) {
                throw new UnsupportedOperationException("the lock comes before one that is owned");
            }
        }
        order.putBefore(owned, number);
    }

    private int locksOwnedBy(Worker worker) {
        int owned = 0;
        for (int i = 0; i < SYNCS; i++) {
            if (syncs[i] instanceof Lock lock && lock.owner == worker) {
                owned |= 1 << i;
            }
        }
        return owned;
    }

    private void signalFirst(Condition condition) {
        Worker first = condition.waiters.at(0);
        if (first == null) {
            return;
        }
        condition.addWaited(now - first.since);
        condition.dequeue(first);
        queueForLock(first, condition.lock, GOT);
    }

    private void queueForLock(Worker worker, Lock lock, int outcome) {
        worker.outcomeDue = outcome;
        worker.takesBack = true;
        lock.enqueue(worker, NO_MODE, now);
        lock.serve(now);
    }

    private void giveUp(Worker worker, int outcome) {
        Sync place = worker.place;
        if (place instanceof Condition condition) {
            condition.dequeue(worker);
            queueForLock(worker, condition.lock, outcome);
        } else if (place instanceof Gate gate) {
            gate.dequeue(worker);
            worker.finish(outcome);
            gate.serve(now);
        }
    }

    private Worker nextLate() {
        Worker next = null;
        for (int i = 0; i < THREADS; i++) {
            Worker worker = workers[i];
            if (worker.hasEnd && worker.end <= now && (next == null || worker.end < next.end)) {
                next = worker;
            }
        }
        return next;
    }

    /** A THREAD, with what makes it a WAITER: it waits for one SYNC at a time. */
    private static final class Worker {
        private final int number;
        private double priority;
        private boolean flag;
        private int outcome;
        private Sync place;
        private int mode;
        private boolean hasEnd;
        private double end;
        private double since;
        // One that awaited comes back to its LOCK at the old DEPTH, and learns only then how it ended.
        private int depthDue;
        private int outcomeDue;
        private boolean takesBack;

        private Worker(int number) {
            this.number = number;
            this.outcome = NO_OUTCOME;
        }

        private boolean isBlocked() {
            return place != null;
        }

        private boolean dropFlag() {
            boolean wasSet = flag;
            flag = false;
            return wasSet;
        }

        private int finish(int result) {
            outcome = result;
            takesBack = false;
            return result;
        }

        private void setEnd(double start, double limit) {
            if (limit > 0.0) {
                hasEnd = true;
                end = start + limit;
            }
        }
    }

    /** The WAITERS of one SYNC, in the order in which they came. */
    private static final class Waiters {
        private final Worker[] row;
        private int count;

        private Waiters() {
            row = new Worker[THREADS];
            count = 0;
        }

        private int size() {
            return count;
        }

        private Worker at(int index) {
            return index >= 0 && index < count ? row[index] : null;
        }

        private void add(Worker worker) {
            if (count < row.length) {
                row[count] = worker;
                count++;
            }
        }

        private void remove(Worker worker) {
            int kept = 0;
            for (int i = 0; i < count; i++) {
                if (row[i] != worker) {
                    row[kept] = row[i];
                    kept++;
                }
            }
            count = kept;
        }

        private Worker firstToWrite() {
            for (int i = 0; i < count; i++) {
                if (row[i].mode == WRITE) {
                    return row[i];
                }
            }
            return null;
        }

        private Worker firstOfGreatestPriority() {
            Worker best = at(0);
            for (int i = 1; i < count; i++) {
                if (best == null || row[i].priority > best.priority) {
                    best = row[i];
                }
            }
            return best;
        }
    }

    /** What every SYNC has. */
    private abstract static class Sync {
        final int kind;
        final Waiters waiters;
        double waitedSum;
        int waitedCount;

        Sync(int kind) {
            this.kind = kind;
            this.waiters = new Waiters();
        }

        int amount() {
            return 0;
        }

        int holdOf(Worker worker) {
            return 0;
        }

        final void enqueue(Worker worker, int mode, double start) {
            waiters.add(worker);
            worker.place = this;
            worker.mode = mode;
            worker.since = start;
            worker.outcome = STILL_BLOCKED;
        }

        final void dequeue(Worker worker) {
            waiters.remove(worker);
            worker.place = null;
            worker.hasEnd = false;
        }

        final void addWaited(double span) {
            waitedSum = waitedSum + span;
            waitedCount++;
        }
    }

    /** A SYNC that THREADS take and give back: all but the CONDITION. */
    private abstract static class Gate extends Sync {
        Gate(int kind) {
            super(kind);
        }

        abstract boolean canTake(Worker worker, int mode);

        abstract boolean mustQueue(Worker worker, int mode);

        abstract void take(Worker worker, int mode, int depth);

        abstract void giveBack(Worker worker, int mode);

        void checkWish(Worker worker, int mode) {
        }

        Worker next() {
            return waiters.at(0);
        }

        final void serve(double present) {
            int most = waiters.size();
            for (int i = 0; i < most; i++) {
                Worker worker = next();
                if (worker == null || !canTake(worker, worker.mode)) {
                    return;
                }
                dequeue(worker);
                take(worker, worker.mode, worker.depthDue);
                worker.finish(worker.outcomeDue);
                addWaited(present - worker.since);
            }
        }
    }

    /** MUTEX and REENTRANT. */
    private static final class Lock extends Gate {
        private Worker owner;
        private int depth;

        private Lock(int kind) {
            super(kind);
        }

        boolean canTake(Worker worker, int mode) {
            return owner == null || isAgain(worker);
        }

        boolean mustQueue(Worker worker, int mode) {
            return waiters.size() > 0 && !isAgain(worker);
        }

        void take(Worker worker, int mode, int steps) {
            owner = worker;
            depth += steps;
        }

        void giveBack(Worker worker, int mode) {
            checkOwner(worker, this);
            depth--;
            if (depth <= 0) {
                free();
            }
        }

        int holdOf(Worker worker) {
            return owner == worker ? depth : 0;
        }

        private boolean isAgain(Worker worker) {
            return kind == REENTRANT && owner == worker;
        }

        private void free() {
            owner = null;
            depth = 0;
        }
    }

    /** FIFO and RANKED. */
    private static final class Semaphore extends Gate {
        private int permits;

        private Semaphore(int kind, int permits) {
            super(kind);
            this.permits = permits;
        }

        boolean canTake(Worker worker, int mode) {
            return permits > 0;
        }

        boolean mustQueue(Worker worker, int mode) {
            return waiters.size() > 0;
        }

        void take(Worker worker, int mode, int depth) {
            permits--;
        }

        void giveBack(Worker worker, int mode) {
            if (permits >= MOST_PERMITS) {
                throw new UnsupportedOperationException("there are no more permits than these");
            }
            permits++;
        }

        Worker next() {
            return kind == RANKED ? waiters.firstOfGreatestPriority() : waiters.at(0);
        }

        int amount() {
            return permits;
        }
    }

    /** LATCH. */
    private static final class Latch extends Gate {
        private int count;

        private Latch(int count) {
            super(LATCH);
            this.count = count;
        }

        boolean canTake(Worker worker, int mode) {
            return count == 0;
        }

        boolean mustQueue(Worker worker, int mode) {
            return false;
        }

        void take(Worker worker, int mode, int depth) {
        }

        void giveBack(Worker worker, int mode) {
            if (count > 0) {
                count--;
            }
        }

        int amount() {
            return count;
        }
    }

    /** SHARED. */
    private static final class Shared extends Gate {
        private final int[] reads;
        private Worker writer;
        private int depth;

        private Shared() {
            super(SHARED);
            reads = new int[THREADS];
        }

        void checkWish(Worker worker, int mode) {
            if (mode == WRITE && reads[worker.number] > 0 && writer != worker) {
                throw new UnsupportedOperationException("a reader can't become the writer");
            }
        }

        boolean canTake(Worker worker, int mode) {
            boolean noOtherWriter = writer == null || writer == worker;
            return noOtherWriter && (mode == READ || !othersRead(worker));
        }

        boolean mustQueue(Worker worker, int mode) {
            if (reads[worker.number] > 0 || writer == worker) {
                return false;
            }
            return mode == READ ? waiters.firstToWrite() != null : waiters.size() > 0;
        }

        void take(Worker worker, int mode, int steps) {
            if (mode == READ) {
                reads[worker.number]++;
            } else {
                writer = worker;
                depth++;
            }
        }

        void giveBack(Worker worker, int mode) {
            if (mode == READ) {
                stopReading(worker);
            } else {
                stopWriting(worker);
            }
        }

        Worker next() {
            Worker writes = waiters.firstToWrite();
            return writes == null ? waiters.at(0) : writes;
        }

        int holdOf(Worker worker) {
            return (writer == worker ? depth : 0) + reads[worker.number];
        }

        private void stopReading(Worker worker) {
            if (reads[worker.number] <= 0) {
                throw new IllegalStateException("the thread does not read");
            }
            reads[worker.number]--;
        }

        private void stopWriting(Worker worker) {
            if (writer != worker) {
                throw new IllegalStateException("the thread is not the writer");
            }
            depth--;
            if (depth <= 0) {
                writer = null;
            }
        }

        private boolean othersRead(Worker worker) {
            for (int i = 0; i < THREADS; i++) {
                if (i != worker.number && reads[i] > 0) {
                    return true;
                }
            }
            return false;
        }
    }

    /** CONDITION. */
    private static final class Condition extends Sync {
        private final Lock lock;

        private Condition(Lock lock) {
            super(CONDITION);
            this.lock = lock;
        }
    }

    /** The ORDER: which locks are BEFORE which; locks are bits of a mask, by the SYNC's number. */
    private static final class LockOrder {
        private final int[] after;
        private int policy;
        private int warnings;

        private LockOrder() {
            after = new int[SYNCS];
            policy = ORDER_UNWATCHED;
            warnings = 0;
        }

        private boolean isBeforeAny(int first, int locks) {
            int reached = after[first];
            // A way over more than SYNCS steps passes a lock twice, so a shorter one is there.
            for (int step = 1; step < SYNCS; step++) {
                reached |= afterAny(reached);
            }
            return (reached & locks) != 0;
        }

        private int afterAny(int locks) {
            int found = 0;
            for (int i = 0; i < SYNCS; i++) {
                if ((locks >> i & 1) != 0) {
                    found |= after[i];
                }
            }
            return found;
        }

        private void putBefore(int locks, int last) {
            for (int i = 0; i < SYNCS; i++) {
                if ((locks >> i & 1) != 0) {
                    after[i] |= 1 << last;
                }
            }
        }
    }
}
