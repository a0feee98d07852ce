/**
 * A simulator of a cluster scheduler with speculative execution: tasks run as attempts on nodes
 * of different speeds, and a task that seems to be a straggler gets a second attempt.
 */
public final class SpeculativeScheduler {
    public static final int NO_SUCH_NODE = -1;
    public static final int NO_SUCH_TASK = -2;
    public static final int NO_SUCH_ATTEMPT = -3;
    public static final int BAD_VALUE = -4;
    public static final int FULL = -5;
    public static final int NONE = -6;
    public static final int WAITING = 0, RUNNING = 1, DONE = 2;
    public static final int COMMITTED = 2, KILLED = 3, LOST = 4;
    public static final int NO_SPECULATION = 0, NAIVE = 1, LATE = 2;

    private static final int MAX_NODES = 8;
    private static final int MAX_SLOTS = 4;
    private static final int MAX_SPEED = 100;
    private static final int MAX_TASKS = 24;
    private static final int MAX_WORK = 10000;
    private static final int MAX_ATTEMPTS = 200;
    private static final int MAX_RUNNING = MAX_NODES * MAX_SLOTS;
    private static final int MAX_CAP = 32;
    private static final int MAX_MINIMUM_AGE = 100;
    private static final int MAX_THRESHOLD = 200;
    private static final int MAX_TICKS = 500;
    private static final int MAX_SIMULATED_TICKS = 2000;
    private static final int FULL_PROGRESS = 1000;
    private static final int NAIVE_GAP = 200;
    private static final int UNKNOWN_REMAINING_TIME = 1000000;

    private final Cluster live = new Cluster();
    // Every simulation uses these rows again, so that no call makes objects.
    private final Cluster trial = new Cluster();

    public SpeculativeScheduler() {
    }

    public int addNode(int speed, int slots) {
        if (!inRange(speed, 0, MAX_SPEED) || !inRange(slots, 1, MAX_SLOTS)) {
            return BAD_VALUE;
        }
        return live.nodes.add(speed, slots);
    }

    public int setSpeed(int node, int speed) {
        if (!live.nodes.has(node)) {
            return NO_SUCH_NODE;
        }
        if (!inRange(speed, 0, MAX_SPEED)) {
            return BAD_VALUE;
        }
        int previous = live.nodes.speed[node];
        live.nodes.speed[node] = speed;
        return previous;
    }

    public int failNode(int node) {
        if (!live.nodes.has(node)) {
            return NO_SUCH_NODE;
        }
        if (!live.nodes.up[node]) {
            return NONE;
        }
        live.nodes.up[node] = false;
        return live.loseAttemptsOn(node);
    }

    public int repairNode(int node) {
        if (!live.nodes.has(node)) {
            return NO_SUCH_NODE;
        }
        int repaired = live.nodes.up[node] ? 0 : 1;
        live.nodes.up[node] = true;
        return repaired;
    }

    public int addTask(int work) {
        if (!inRange(work, 1, MAX_WORK)) {
            return BAD_VALUE;
        }
        return live.tasks.add(work);
    }

    public int setPolicy(int policy) {
        if (!isPolicy(policy)) {
            return BAD_VALUE;
        }
        int previous = live.settings.policy;
        live.settings.policy = policy;
        return previous;
    }

    public int setLimits(int cap, int minimumAge) {
        if (!inRange(cap, 0, MAX_CAP) || !inRange(minimumAge, 0, MAX_MINIMUM_AGE)) {
            return BAD_VALUE;
        }
        Settings settings = live.settings;
        boolean changed = settings.cap != cap || settings.minimumAge != minimumAge;
        settings.cap = cap;
        settings.minimumAge = minimumAge;
        return changed ? 1 : 0;
    }

    public int setThresholds(int task, int node) {
        if (!inRange(task, 1, MAX_THRESHOLD) || !inRange(node, 1, MAX_THRESHOLD)) {
            return BAD_VALUE;
        }
        Settings settings = live.settings;
        boolean changed = settings.taskThreshold != task || settings.nodeThreshold != node;
        settings.taskThreshold = task;
        settings.nodeThreshold = node;
        return changed ? 1 : 0;
    }

    public int tick(int ticks) {
        if (!inRange(ticks, 1, MAX_TICKS)) {
            return BAD_VALUE;
        }
        int finished = 0;
        for (int i = 0; i < ticks; i++) {
            finished += live.runOneTick();
        }
        return finished;
    }

    public int time() {
        return live.now;
    }

    public int taskState(int task) {
        return live.tasks.has(task) ? live.tasks.stateOf(task) : NO_SUCH_TASK;
    }

    public int committedAttempt(int task) {
        return live.tasks.has(task) ? live.tasks.committed[task] : NO_SUCH_TASK;
    }

    public int finishTime(int task) {
        return live.tasks.has(task) ? live.tasks.finish[task] : NO_SUCH_TASK;
    }

    public int makespan() {
        return live.tasks.lastFinish();
    }

    public int attemptCount() {
        return live.attempts.count;
    }

    public int attemptTask(int attempt) {
        return live.attempts.has(attempt) ? live.attempts.task[attempt] : NO_SUCH_ATTEMPT;
    }

    public int attemptNode(int attempt) {
        return live.attempts.has(attempt) ? live.attempts.node[attempt] : NO_SUCH_ATTEMPT;
    }

    public int attemptState(int attempt) {
        return live.attempts.has(attempt) ? live.attempts.state[attempt] : NO_SUCH_ATTEMPT;
    }

    public int isSpeculative(int attempt) {
        if (!live.attempts.has(attempt)) {
            return NO_SUCH_ATTEMPT;
        }
        return live.attempts.speculative[attempt] ? 1 : 0;
    }

    public int progress(int attempt) {
        return live.attempts.has(attempt) ? live.attempts.progress[attempt] : NO_SUCH_ATTEMPT;
    }

    public int remainingTime(int attempt) {
        if (!live.attempts.has(attempt)) {
            return NO_SUCH_ATTEMPT;
        }
        return live.attempts.state[attempt] == RUNNING ? live.attempts.remaining(attempt) : NONE;
    }

    public int nodeScore(int node) {
        return live.nodes.has(node) ? live.nodes.score(node) : NO_SUCH_NODE;
    }

    public int isSlowNode(int node) {
        if (!live.nodes.has(node)) {
            return NO_SUCH_NODE;
        }
        return live.nodes.isSlow(node, live.settings.nodeThreshold) ? 1 : 0;
    }

    public int runningOn(int node) {
        return live.nodes.has(node) ? live.nodes.busy[node] : NO_SUCH_NODE;
    }

    public int straggler() {
        return live.findStraggler();
    }

    public int runningSpeculative() {
        return live.attempts.countSpeculative();
    }

    public int wastedWork() {
        return live.attempts.wasted();
    }

    public int simulatedMakespan(int policy) {
        if (!isPolicy(policy)) {
            return BAD_VALUE;
        }
        trial.startAfresh(live, policy);
        int open = trial.tasks.count;
        for (int i = 0; i < MAX_SIMULATED_TICKS && open > 0; i++) {
            open -= trial.runOneTick();
        }
        return trial.tasks.lastFinish();
    }

    private static boolean inRange(int value, int least, int greatest) {
        return value >= least && value <= greatest;
    }

    private static boolean isPolicy(int policy) {
        return policy == NO_SPECULATION || policy == NAIVE || policy == LATE;
    }

    private static final class Settings {
        int policy = LATE;
        int cap = 2;
        int minimumAge = 3;
        int taskThreshold = 75;
        int nodeThreshold = 50;

        void copyWithPolicy(Settings other, int itsPolicy) {
            policy = itsPolicy;
            cap = other.cap;
            minimumAge = other.minimumAge;
            taskThreshold = other.taskThreshold;
            nodeThreshold = other.nodeThreshold;
        }
    }

    /** The nodes, with the sums over all attempts that they have run. */
    private static final class Nodes {
        int count = 0;
        final int[] speed = new int[MAX_NODES];
        final int[] slots = new int[MAX_NODES];
        final boolean[] up = new boolean[MAX_NODES];
        final int[] busy = new int[MAX_NODES];
        final int[] workSum = new int[MAX_NODES];
        final int[] ageSum = new int[MAX_NODES];

        boolean has(int node) {
            return node >= 0 && node < count;
        }

        int add(int itsSpeed, int itsSlots) {
            if (count >= MAX_NODES) {
                return FULL;
            }
            int node = count;
            count++;
            speed[node] = itsSpeed;
            slots[node] = itsSlots;
            up[node] = true;
            busy[node] = 0;
            workSum[node] = 0;
            ageSum[node] = 0;
            return node;
        }

        void copyUnused(Nodes other) {
            count = 0;
            for (int node = 0; node < other.count; node++) {
                add(other.speed[node], other.slots[node]);
                up[node] = other.up[node];
            }
        }

        boolean hasFreeSlot(int node) {
            return up[node] && busy[node] < slots[node];
        }

        int score(int node) {
            return ageSum[node] > 0 ? workSum[node] / ageSum[node] : 0;
        }

        boolean isSlow(int node, int threshold) {
            return ageSum[node] > 0 && score(node) * 100 < meanScore() * threshold;
        }

        int meanScore() {
            int sum = 0;
            int number = 0;
            for (int node = 0; node < count; node++) {
                if (up[node] && ageSum[node] > 0) {
                    sum += score(node);
                    number++;
                }
            }
            return number > 0 ? sum / number : 0;
        }
    }

    private static final class Tasks {
        int count = 0;
        final int[] work = new int[MAX_TASKS];
        final int[] runs = new int[MAX_TASKS];
        final int[] committed = new int[MAX_TASKS];
        final int[] finish = new int[MAX_TASKS];

        boolean has(int task) {
            return task >= 0 && task < count;
        }

        int add(int itsWork) {
            if (count >= MAX_TASKS) {
                return FULL;
            }
            int task = count;
            count++;
            work[task] = itsWork;
            runs[task] = 0;
            committed[task] = NONE;
            finish[task] = NONE;
            return task;
        }

        void copyUnused(Tasks other) {
            count = 0;
            for (int task = 0; task < other.count; task++) {
                add(other.work[task]);
            }
        }

        int stateOf(int task) {
            if (committed[task] != NONE) {
                return DONE;
            }
            return runs[task] > 0 ? RUNNING : WAITING;
        }

        int firstWaiting() {
            for (int task = 0; task < count; task++) {
                if (stateOf(task) == WAITING) {
                    return task;
                }
            }
            return NONE;
        }

        int lastFinish() {
            int last = NONE;
            for (int task = 0; task < count; task++) {
                if (committed[task] == NONE) {
                    return NONE;
                }
                last = Math.max(last, finish[task]);
            }
            return last;
        }
    }

    private static final class Attempts {
        int count = 0;
        final int[] task = new int[MAX_ATTEMPTS];
        final int[] node = new int[MAX_ATTEMPTS];
        final int[] state = new int[MAX_ATTEMPTS];
        final boolean[] speculative = new boolean[MAX_ATTEMPTS];
        final int[] age = new int[MAX_ATTEMPTS];
        final int[] done = new int[MAX_ATTEMPTS];
        final int[] progress = new int[MAX_ATTEMPTS];
        final int[] rate = new int[MAX_ATTEMPTS];
        // The numbers of the running attempts, ascending: a tick need not look at ended ones.
        final int[] running = new int[MAX_RUNNING];
        int runningCount = 0;

        boolean has(int attempt) {
            return attempt >= 0 && attempt < count;
        }

        void clear() {
            count = 0;
            runningCount = 0;
        }

        boolean isFull() {
            return count >= MAX_ATTEMPTS || runningCount >= MAX_RUNNING;
        }

        void add(int itsTask, int itsNode, boolean isSecond) {
            if (isFull()) {
                return;
            }
            int attempt = count;
            count++;
            task[attempt] = itsTask;
            node[attempt] = itsNode;
            state[attempt] = RUNNING;
            speculative[attempt] = isSecond;
            age[attempt] = 0;
            done[attempt] = 0;
            progress[attempt] = 0;
            rate[attempt] = 0;
            running[runningCount] = attempt;
            runningCount++;
        }

        void grow(int attempt, int amount, int taskWork) {
            age[attempt]++;
            done[attempt] += amount;
            int share = taskWork > 0 ? done[attempt] * FULL_PROGRESS / taskWork : 0;
            progress[attempt] = Math.min(FULL_PROGRESS, share);
            rate[attempt] = age[attempt] > 0 ? progress[attempt] / age[attempt] : 0;
        }

        void dropEnded() {
            int kept = 0;
            for (int i = 0; i < runningCount; i++) {
                int attempt = running[i];
                if (state[attempt] == RUNNING) {
                    running[kept] = attempt;
                    kept++;
                }
            }
            runningCount = kept;
        }

        int remaining(int attempt) {
            int reached = progress[attempt];
            if (reached == 0) {
                return UNKNOWN_REMAINING_TIME;
            }
            return (FULL_PROGRESS - reached) * age[attempt] / reached;
        }

        int meanOfRunning(int[] row) {
            int sum = 0;
            for (int i = 0; i < runningCount; i++) {
                sum += row[running[i]];
            }
            return runningCount > 0 ? sum / runningCount : 0;
        }

        int countSpeculative() {
            int number = 0;
            for (int i = 0; i < runningCount; i++) {
                if (speculative[running[i]]) {
                    number++;
                }
            }
            return number;
        }

        int wasted() {
            int sum = 0;
            for (int attempt = 0; attempt < count; attempt++) {
                if (state[attempt] == KILLED || state[attempt] == LOST) {
                    sum += done[attempt];
                }
            }
            return sum;
        }
    }

    /** A whole cluster with its job; the live one and the one of a simulation are alike. */
    private static final class Cluster {
        final Settings settings = new Settings();
        final Nodes nodes = new Nodes();
        final Tasks tasks = new Tasks();
        final Attempts attempts = new Attempts();
        int now = 0;

        void startAfresh(Cluster other, int policy) {
            settings.copyWithPolicy(other.settings, policy);
            nodes.copyUnused(other.nodes);
            tasks.copyUnused(other.tasks);
            attempts.clear();
            now = 0;
        }

        int runOneTick() {
            startAttempts();
            doWork();
            int finished = commitFinished();
            now++;
            return finished;
        }

        void startAttempts() {
            for (int node = 0; node < nodes.count; node++) {
                for (int slot = 0; slot < MAX_SLOTS; slot++) {
                    if (!nodes.hasFreeSlot(node) || attempts.isFull()) {
                        break;
                    }
                    int task = tasks.firstWaiting();
                    if (task == NONE) {
                        task = taskToSpeculate(node);
                    }
                    if (task == NONE) {
                        break;
                    }
                    start(task, node);
                }
            }
        }

        int taskToSpeculate(int node) {
            if (attempts.countSpeculative() >= settings.cap) {
                return NONE;
            }
            if (settings.policy == LATE && nodes.isSlow(node, settings.nodeThreshold)) {
                return NONE;
            }
            int slowest = findStraggler();
            if (slowest == NONE || attempts.node[slowest] == node) {
                return NONE;
            }
            return attempts.task[slowest];
        }

        void start(int task, int node) {
            attempts.add(task, node, tasks.runs[task] > 0);
            tasks.runs[task]++;
            nodes.busy[node]++;
        }

        void doWork() {
            for (int i = 0; i < attempts.runningCount; i++) {
                int attempt = attempts.running[i];
                int node = attempts.node[attempt];
                attempts.grow(attempt, nodes.speed[node], tasks.work[attempts.task[attempt]]);
                nodes.ageSum[node]++;
                nodes.workSum[node] += nodes.speed[node];
            }
        }

        int commitFinished() {
            int finished = 0;
            for (int i = 0; i < attempts.runningCount; i++) {
                int attempt = attempts.running[i];
                int task = attempts.task[attempt];
                // An attempt that was killed in this very step still stands in the row.
                boolean runs = attempts.state[attempt] == RUNNING;
                if (runs && attempts.done[attempt] >= tasks.work[task]) {
                    commit(attempt, task);
                    finished++;
                }
            }
            attempts.dropEnded();
            return finished;
        }

        void commit(int attempt, int task) {
            end(attempt, COMMITTED);
            tasks.committed[task] = attempt;
            tasks.finish[task] = now + 1;
            for (int i = 0; i < attempts.runningCount; i++) {
                int other = attempts.running[i];
                if (attempts.task[other] == task && attempts.state[other] == RUNNING) {
                    end(other, KILLED);
                }
            }
        }

        int loseAttemptsOn(int node) {
            int lost = 0;
            for (int i = 0; i < attempts.runningCount; i++) {
                int attempt = attempts.running[i];
                if (attempts.node[attempt] == node) {
                    end(attempt, LOST);
                    lost++;
                }
            }
            attempts.dropEnded();
            return lost;
        }

        // Leaves the row of running attempts as it is, because the callers walk over it.
        void end(int attempt, int newState) {
            attempts.state[attempt] = newState;
            tasks.runs[attempts.task[attempt]]--;
            nodes.busy[attempts.node[attempt]]--;
        }

        int findStraggler() {
            if (settings.policy == NAIVE) {
                return leastAdvanced();
            }
            return settings.policy == LATE ? longestToRun() : NONE;
        }

        boolean isCandidate(int attempt) {
            return tasks.runs[attempts.task[attempt]] == 1
                    && attempts.age[attempt] >= settings.minimumAge;
        }

        int leastAdvanced() {
            int least = NONE;
            for (int i = 0; i < attempts.runningCount; i++) {
                int attempt = attempts.running[i];
                if (isCandidate(attempt) && (least == NONE
                        || attempts.progress[attempt] < attempts.progress[least])) {
                    least = attempt;
                }
            }
            if (least == NONE) {
                return NONE;
            }
            int mean = attempts.meanOfRunning(attempts.progress);
            return attempts.progress[least] + NAIVE_GAP < mean ? least : NONE;
        }

        int longestToRun() {
            int limit = attempts.meanOfRunning(attempts.rate) * settings.taskThreshold;
            int longest = NONE;
            for (int i = 0; i < attempts.runningCount; i++) {
                int attempt = attempts.running[i];
                boolean slow = attempts.rate[attempt] * 100 < limit;
                if (slow && isCandidate(attempt) && (longest == NONE
                        || attempts.remaining(attempt) > attempts.remaining(longest))) {
                    longest = attempt;
                }
            }
            return longest;
        }
    }
}
