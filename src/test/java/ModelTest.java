import java.util.Random;

/** Random runs of 512 calls with fixed seeds: each answer must be that of the model. */
public final class ModelTest {
    private static final int RUNS = 1600;
    private static final int CALLS = 512;
    /** From here on a run only asks, so that what no call has asked for yet is seen too. */
    private static final int CHANGING_CALLS = 400;
    /** No step of a run makes more calls than this. */
    private static final int CALLS_OF_A_STEP = 6;
    private static final Due DUE = new Due();

    private final Random random;
    private final int kind;
    private final SpeculativeScheduler x = new SpeculativeScheduler();
    private final Model m = new Model();
    private int calls = 0;

    private ModelTest(int seed) {
        random = new Random(seed);
        kind = seed % 4;
    }

    public static void main(String[] args) {
        for (int seed = 1; seed <= RUNS && DUE.isClean(); seed++) {
            DUE.at("seed " + seed);
            new ModelTest(seed).run();
        }
        DUE.end();
    }

    private void run() {
        setUp();
        while (calls <= CHANGING_CALLS - CALLS_OF_A_STEP && DUE.isClean()) changeOrAsk();
        while (calls <= CALLS - CALLS_OF_A_STEP && DUE.isClean()) ask();
        while (calls < CALLS && DUE.isClean()) is("time()", x.time(), m.time);
    }

    private void is(String call, int got, int want) {
        calls++;
        DUE.is("call " + calls + ", " + call, got, want);
    }

    private int below(int bound) {
        return random.nextInt(bound);
    }

    /** Mostly within the range, now and then a step outside it. */
    private int near(int least, int greatest) {
        int pick = below(40);
        if (pick == 0) return least - 1;
        if (pick == 1) return greatest + 1;
        if (pick == 2) return least;
        if (pick == 3) return greatest;
        return least + below(greatest - least + 1);
    }

    private void setUp() {
        int nodes = 1 + below(8);
        for (int i = 0; i < nodes; i++) addNode();
        int tasks = 1 + below(24);
        for (int i = 0; i < tasks; i++) addTask();
        setPolicy(below(3));
    }

    private void changeOrAsk() {
        int pick = below(100);
        if (kind == 3 && pick % 2 == 0) churn();
        else if (pick < 42) tick();
        else if (pick < 46) addNode();
        else if (pick < 52) addTask();
        else if (pick < 58) setSpeed();
        else if (pick < 64) failNode(near(0, 8));
        else if (pick < 72) repairNode(near(0, 8));
        else if (pick < 75) setPolicy(near(0, 2));
        else if (pick < 78) setLimits();
        else if (pick < 81) setThresholds();
        else if (pick < 83) simulate();
        else ask();
    }

    private void ask() {
        int pick = below(100);
        if (pick < 50) askAttempt(near(0, Math.max(1, m.attempts.size())));
        else if (pick < 70) askNode(near(0, 8));
        else if (pick < 90) askTask(near(0, 24));
        else askCluster();
    }

    private void addNode() {
        int speed = kind == 1 ? near(0, 10) : near(0, 100);
        int slots = kind == 3 ? 4 : near(1, 4);
        is("addNode(" + speed + ", " + slots + ")", x.addNode(speed, slots), m.addNode(speed, slots));
    }

    private void addTask() {
        int work = kind >= 2 ? near(1, 10000) : near(1, 400);
        is("addTask(" + work + ")", x.addTask(work), m.addTask(work));
    }

    private void setSpeed() {
        int node = near(0, 8);
        int speed = near(0, 100);
        is("setSpeed(" + node + ", " + speed + ")", x.setSpeed(node, speed), m.setSpeed(node, speed));
    }

    private void failNode(int node) {
        is("failNode(" + node + ")", x.failNode(node), m.failNode(node));
    }

    /** Loses attempts again and again, so that some runs come to the 200th attempt. */
    private void churn() {
        int node = below(Math.max(1, m.nodes.size()));
        failNode(node);
        repairNode(node);
        is("tick(1)", x.tick(1), m.tick(1));
    }

    private void repairNode(int node) {
        is("repairNode(" + node + ")", x.repairNode(node), m.repairNode(node));
    }

    private void setPolicy(int policy) {
        is("setPolicy(" + policy + ")", x.setPolicy(policy), m.setPolicy(policy));
    }

    private void setLimits() {
        int cap = below(2) == 0 ? below(4) : near(0, 32);
        int age = below(2) == 0 ? below(5) : near(0, 100);
        is("setLimits(" + cap + ", " + age + ")", x.setLimits(cap, age), m.setLimits(cap, age));
    }

    private void setThresholds() {
        int task = near(1, 200);
        int node = near(1, 200);
        is("setThresholds(" + task + ", " + node + ")", x.setThresholds(task, node), m.setThresholds(task, node));
    }

    private void tick() {
        int ticks = below(60) == 0 ? near(1, 500) : below(5);
        is("tick(" + ticks + ")", x.tick(ticks), m.tick(ticks));
        is("straggler() after tick", x.straggler(), m.straggler());
        is("attemptCount() after tick", x.attemptCount(), m.attempts.size());
    }

    private void simulate() {
        int policy = near(0, 2);
        is("simulatedMakespan(" + policy + ")", x.simulatedMakespan(policy), m.simulatedMakespan(policy));
    }

    private void askAttempt(int a) {
        is("attemptTask(" + a + ")", x.attemptTask(a), m.attemptTask(a));
        is("attemptNode(" + a + ")", x.attemptNode(a), m.attemptNode(a));
        is("attemptState(" + a + ")", x.attemptState(a), m.attemptState(a));
        is("isSpeculative(" + a + ")", x.isSpeculative(a), m.isSpeculative(a));
        is("progress(" + a + ")", x.progress(a), m.progress(a));
        is("remainingTime(" + a + ")", x.remainingTime(a), m.remainingTime(a));
    }

    private void askNode(int n) {
        is("nodeScore(" + n + ")", x.nodeScore(n), m.nodeScore(n));
        is("isSlowNode(" + n + ")", x.isSlowNode(n), m.isSlowNode(n));
        is("runningOn(" + n + ")", x.runningOn(n), m.runningOn(n));
    }

    private void askTask(int t) {
        is("taskState(" + t + ")", x.taskState(t), m.taskState(t));
        is("committedAttempt(" + t + ")", x.committedAttempt(t), m.committedAttempt(t));
        is("finishTime(" + t + ")", x.finishTime(t), m.finishTime(t));
    }

    private void askCluster() {
        is("time()", x.time(), m.time);
        is("makespan()", x.makespan(), m.makespan());
        is("attemptCount()", x.attemptCount(), m.attempts.size());
        is("straggler()", x.straggler(), m.straggler());
        is("runningSpeculative()", x.runningSpeculative(), m.runningSpeculative());
        is("wastedWork()", x.wastedWork(), m.wastedWork());
    }
}
