import java.util.Random;

/** Random runs of calls with fixed seeds: each answer must be that of the model. */
public final class ModelTest {
    private static final int RUNS = 400;
    private static final int CALLS = 512;
    private static final Due DUE = new Due();

    private final Random random;
    private final int kind;
    private final SpeculativeScheduler x = new SpeculativeScheduler();
    private final Model m = new Model();

    private ModelTest(int seed) {
        random = new Random(seed);
        kind = seed % 4;
    }

    public static void main(String[] args) {
        for (int seed = 1; seed <= RUNS && DUE.isClean(); seed++) {
            DUE.at("seed " + seed);
            new ModelTest(seed).run();
        }
        DUE.end();
    }

    private void run() {
        setUp();
        for (int i = 40; i < CALLS && DUE.isClean(); i++) {
            oneCall();
        }
        // What no call has asked for yet must agree at the end too.
        for (int a = -1; a <= m.attempts.size() && DUE.isClean(); a++) {
            askAttempt(a);
        }
        askAll();
    }

    private int below(int bound) {
        return random.nextInt(bound);
    }

    /** Mostly within the range, now and then a step outside it. */
    private int near(int least, int greatest) {
        int pick = below(40);
        if (pick == 0) return least - 1;
        if (pick == 1) return greatest + 1;
        if (pick == 2) return least;
        if (pick == 3) return greatest;
        return least + below(greatest - least + 1);
    }

    private void setUp() {
        int nodes = 1 + below(8);
        for (int i = 0; i < nodes; i++) addNode();
        int tasks = 1 + below(24);
        for (int i = 0; i < tasks; i++) addTask();
        setPolicy(below(3));
    }

    private void oneCall() {
        int pick = below(100);
        if (kind == 3 && pick % 3 == 0) churn();
        else if (pick < 30) tick();
        else if (pick < 34) addNode();
        else if (pick < 40) addTask();
        else if (pick < 46) setSpeed();
        else if (pick < 52) failNode(near(0, 8));
        else if (pick < 60) repairNode(near(0, 8));
        else if (pick < 63) setPolicy(near(0, 2));
        else if (pick < 66) setLimits();
        else if (pick < 69) setThresholds();
        else if (pick < 71) simulate();
        else if (pick < 84) askAttempt(near(0, Math.max(1, m.attempts.size())));
        else if (pick < 90) askNode(near(0, 8));
        else if (pick < 95) askTask(near(0, 24));
        else askAll();
    }

    private void addNode() {
        int speed = kind == 1 ? near(0, 10) : near(0, 100);
        int slots = near(1, 4);
        DUE.is("addNode(" + speed + ", " + slots + ")", x.addNode(speed, slots), m.addNode(speed, slots));
    }

    private void addTask() {
        int work = kind >= 2 ? near(1, 10000) : near(1, 400);
        DUE.is("addTask(" + work + ")", x.addTask(work), m.addTask(work));
    }

    private void setSpeed() {
        int node = near(0, 8);
        int speed = near(0, 100);
        DUE.is("setSpeed(" + node + ", " + speed + ")", x.setSpeed(node, speed), m.setSpeed(node, speed));
    }

    private void failNode(int node) {
        DUE.is("failNode(" + node + ")", x.failNode(node), m.failNode(node));
    }

    /** Loses attempts again and again, so that some runs come to the 200th attempt. */
    private void churn() {
        int node = below(8);
        failNode(node);
        repairNode(node);
        tick();
    }

    private void repairNode(int node) {
        DUE.is("repairNode(" + node + ")", x.repairNode(node), m.repairNode(node));
    }

    private void setPolicy(int policy) {
        DUE.is("setPolicy(" + policy + ")", x.setPolicy(policy), m.setPolicy(policy));
    }

    private void setLimits() {
        int cap = below(2) == 0 ? below(4) : near(0, 32);
        int age = below(2) == 0 ? below(5) : near(0, 100);
        DUE.is("setLimits(" + cap + ", " + age + ")", x.setLimits(cap, age), m.setLimits(cap, age));
    }

    private void setThresholds() {
        int task = near(1, 200);
        int node = near(1, 200);
        DUE.is("setThresholds(" + task + ", " + node + ")", x.setThresholds(task, node), m.setThresholds(task, node));
    }

    private void tick() {
        int ticks = below(60) == 0 ? near(1, 500) : below(5);
        DUE.is("tick(" + ticks + ")", x.tick(ticks), m.tick(ticks));
        DUE.is("straggler() after tick", x.straggler(), m.straggler());
        DUE.is("attemptCount() after tick", x.attemptCount(), m.attempts.size());
    }

    private void simulate() {
        int policy = near(0, 2);
        DUE.is("simulatedMakespan(" + policy + ")", x.simulatedMakespan(policy), m.simulatedMakespan(policy));
    }

    private void askAttempt(int a) {
        DUE.is("attemptTask(" + a + ")", x.attemptTask(a), m.attemptTask(a));
        DUE.is("attemptNode(" + a + ")", x.attemptNode(a), m.attemptNode(a));
        DUE.is("attemptState(" + a + ")", x.attemptState(a), m.attemptState(a));
        DUE.is("isSpeculative(" + a + ")", x.isSpeculative(a), m.isSpeculative(a));
        DUE.is("progress(" + a + ")", x.progress(a), m.progress(a));
        DUE.is("remainingTime(" + a + ")", x.remainingTime(a), m.remainingTime(a));
    }

    private void askNode(int n) {
        DUE.is("nodeScore(" + n + ")", x.nodeScore(n), m.nodeScore(n));
        DUE.is("isSlowNode(" + n + ")", x.isSlowNode(n), m.isSlowNode(n));
        DUE.is("runningOn(" + n + ")", x.runningOn(n), m.runningOn(n));
    }

    private void askTask(int t) {
        DUE.is("taskState(" + t + ")", x.taskState(t), m.taskState(t));
        DUE.is("committedAttempt(" + t + ")", x.committedAttempt(t), m.committedAttempt(t));
        DUE.is("finishTime(" + t + ")", x.finishTime(t), m.finishTime(t));
    }

    private void askAll() {
        for (int n = -1; n <= 8; n++) askNode(n);
        for (int t = -1; t <= 24; t++) askTask(t);
        DUE.is("time()", x.time(), m.time);
        DUE.is("makespan()", x.makespan(), m.makespan());
        DUE.is("straggler()", x.straggler(), m.straggler());
        DUE.is("runningSpeculative()", x.runningSpeculative(), m.runningSpeculative());
        DUE.is("wastedWork()", x.wastedWork(), m.wastedWork());
    }
}
