/** The promises by number: ordinary inputs, the edges that the document names and wrong inputs. */
public final class PromisesTest extends Cases {
    public static void main(String[] args) {
        newObject();
        addNode();
        setSpeed();
        failNode();
        repairNode();
        addTask();
        setPolicy();
        setLimits();
        setThresholds();
        tickAndTime();
        taskQuestions();
        makespan();
        attemptQuestions();
        progress();
        remainingTime();
        nodeScore();
        nodeScoreOfKilledOnes();
        isSlowNode();
        runningOn();
        wastedWork();
        simulatedMakespan();
        simulationUsesThePresent();
        simulationAfterSimulation();
        simulationKeepsNoProgress();
        simulationKeepsNoScore();
        DUE.end();
    }

    private static void newObject() {
        DUE.at("promise 1");
        SpeculativeScheduler x = new SpeculativeScheduler();
        DUE.is("time()", x.time(), 0);
        DUE.is("attemptCount()", x.attemptCount(), 0);
        DUE.is("makespan()", x.makespan(), -6);
        DUE.is("straggler()", x.straggler(), -6);
        DUE.is("runningSpeculative()", x.runningSpeculative(), 0);
        DUE.is("wastedWork()", x.wastedWork(), 0);
        DUE.is("nodeScore(0)", x.nodeScore(0), -1);
        DUE.is("taskState(0)", x.taskState(0), -2);
        DUE.is("setLimits(2, 3)", x.setLimits(2, 3), 0);
        DUE.is("setThresholds(75, 50)", x.setThresholds(75, 50), 0);
        DUE.is("setPolicy(2)", x.setPolicy(2), 2);
        x.addNode(1, 1);
        x.tick(1);
        SpeculativeScheduler other = new SpeculativeScheduler();
        DUE.is("time() of another", other.time(), 0);
        DUE.is("runningOn(0) of another", other.runningOn(0), -1);
    }

    private static void addNode() {
        DUE.at("promise 2");
        SpeculativeScheduler x = new SpeculativeScheduler();
        int[][] wrong = {{-1, 1}, {101, 1}, {0, 0}, {0, 5}, {LEAST, 1}, {GREATEST, 1}, {1, LEAST}, {1, GREATEST}};
        for (int[] w : wrong) DUE.is("addNode(" + w[0] + ", " + w[1] + ")", x.addNode(w[0], w[1]), -4);
        DUE.is("addNode(0, 1)", x.addNode(0, 1), 0);
        DUE.is("addNode(100, 4)", x.addNode(100, 4), 1);
        DUE.is("repairNode(1): it is up", x.repairNode(1), 0);
        for (int i = 2; i < 8; i++) DUE.is("addNode(7, 2)", x.addNode(7, 2), i);
        DUE.is("the ninth addNode(7, 2)", x.addNode(7, 2), -5);
        DUE.is("the ninth addNode(7, 5): the value first", x.addNode(7, 5), -4);
        DUE.is("the ninth addNode(-1, 1): the value first", x.addNode(-1, 1), -4);
        DUE.is("runningOn(8)", x.runningOn(8), -1);
    }

    private static void setSpeed() {
        DUE.at("promise 3");
        SpeculativeScheduler x = cluster(speeds(10), 1000);
        DUE.is("setSpeed(-1, 5)", x.setSpeed(-1, 5), -1);
        DUE.is("setSpeed(1, 5)", x.setSpeed(1, 5), -1);
        DUE.is("setSpeed(1, 101): the node first", x.setSpeed(1, 101), -1);
        DUE.is("setSpeed(0, -1)", x.setSpeed(0, -1), -4);
        DUE.is("setSpeed(0, 101)", x.setSpeed(0, 101), -4);
        DUE.is("setSpeed(LEAST, 5)", x.setSpeed(LEAST, 5), -1);
        x.tick(1);
        DUE.is("progress(0) at 10", x.progress(0), 10);
        DUE.is("setSpeed(0, 100)", x.setSpeed(0, 100), 10);
        x.tick(1);
        DUE.is("progress(0) after 10 + 100", x.progress(0), 110);
        DUE.is("setSpeed(0, 0)", x.setSpeed(0, 0), 100);
        DUE.is("setSpeed(0, 0) again", x.setSpeed(0, 0), 0);
        x.failNode(0);
        DUE.is("setSpeed(0, 9) of a node that is down", x.setSpeed(0, 9), 0);
        DUE.is("setSpeed(0, 9) again", x.setSpeed(0, 9), 9);
    }

    private static void failNode() {
        DUE.at("promise 4");
        SpeculativeScheduler x = new SpeculativeScheduler();
        x.addNode(10, 3);
        x.addNode(10, 1);
        x.addTask(10);
        x.addTask(50);
        x.addTask(50);
        x.addTask(50);
        DUE.is("failNode(-1)", x.failNode(-1), -1);
        DUE.is("failNode(2)", x.failNode(2), -1);
        DUE.is("failNode(GREATEST)", x.failNode(GREATEST), -1);
        x.tick(1);
        DUE.is("failNode(0): one of three has committed", x.failNode(0), 2);
        DUE.is("failNode(0) again", x.failNode(0), -6);
        DUE.is("attemptState(0) stays", x.attemptState(0), 2);
        DUE.is("taskState(0) stays", x.taskState(0), 2);
        DUE.is("attemptState(1)", x.attemptState(1), 4);
        DUE.is("attemptState(2)", x.attemptState(2), 4);
        DUE.is("attemptState(3) on node 1", x.attemptState(3), 1);
        DUE.is("taskState(1)", x.taskState(1), 0);
        DUE.is("taskState(3)", x.taskState(3), 1);
        DUE.is("runningOn(0)", x.runningOn(0), 0);
        x.tick(3);
        DUE.is("attemptCount(): nothing starts on a node that is down", x.attemptCount(), 4);
        x.tick(2);
        DUE.is("attemptTask(4): task 1 on node 1", x.attemptTask(4), 1);
        DUE.is("attemptNode(4)", x.attemptNode(4), 1);
    }

    private static void repairNode() {
        DUE.at("promise 5");
        SpeculativeScheduler x = cluster(speeds(10), 50);
        DUE.is("repairNode(-1)", x.repairNode(-1), -1);
        DUE.is("repairNode(1)", x.repairNode(1), -1);
        DUE.is("repairNode(0) of a node that is up", x.repairNode(0), 0);
        x.tick(2);
        DUE.is("failNode(0)", x.failNode(0), 1);
        DUE.is("nodeScore(0) while down", x.nodeScore(0), 10);
        DUE.is("repairNode(0)", x.repairNode(0), 1);
        DUE.is("repairNode(0) again", x.repairNode(0), 0);
        DUE.is("nodeScore(0) stays", x.nodeScore(0), 10);
        DUE.is("attemptState(0) stays LOST", x.attemptState(0), 4);
        x.tick(1);
        DUE.is("attemptCount(): it starts anew", x.attemptCount(), 2);
        DUE.is("progress(1): from the beginning", x.progress(1), 200);
    }

    private static void addTask() {
        DUE.at("promise 6");
        SpeculativeScheduler x = new SpeculativeScheduler();
        int[] wrong = {0, -1, 10001, LEAST, GREATEST};
        for (int w : wrong) DUE.is("addTask(" + w + ")", x.addTask(w), -4);
        DUE.is("addTask(1)", x.addTask(1), 0);
        DUE.is("addTask(10000)", x.addTask(10000), 1);
        for (int i = 2; i < 24; i++) DUE.is("addTask(5)", x.addTask(5), i);
        DUE.is("the 25th addTask(5)", x.addTask(5), -5);
        DUE.is("the 25th addTask(0): the value first", x.addTask(0), -4);
        DUE.is("taskState(23)", x.taskState(23), 0);
        DUE.is("taskState(24)", x.taskState(24), -2);
    }

    private static void setPolicy() {
        DUE.at("promise 7");
        SpeculativeScheduler x = new SpeculativeScheduler();
        DUE.is("setPolicy(0)", x.setPolicy(0), 2);
        DUE.is("setPolicy(1)", x.setPolicy(1), 0);
        DUE.is("setPolicy(3)", x.setPolicy(3), -4);
        DUE.is("setPolicy(-1)", x.setPolicy(-1), -4);
        DUE.is("setPolicy(LEAST)", x.setPolicy(LEAST), -4);
        DUE.is("setPolicy(2)", x.setPolicy(2), 1);
        DUE.is("setPolicy(2) again", x.setPolicy(2), 2);
    }

    private static void setLimits() {
        DUE.at("promise 8");
        SpeculativeScheduler x = new SpeculativeScheduler();
        int[][] wrong = {{-1, 0}, {33, 0}, {0, -1}, {0, 101}, {LEAST, 3}, {2, GREATEST}};
        for (int[] w : wrong) DUE.is("setLimits(" + w[0] + ", " + w[1] + ")", x.setLimits(w[0], w[1]), -4);
        DUE.is("setLimits(2, 3): errors changed nothing", x.setLimits(2, 3), 0);
        DUE.is("setLimits(0, 3)", x.setLimits(0, 3), 1);
        DUE.is("setLimits(0, 0)", x.setLimits(0, 0), 1);
        DUE.is("setLimits(0, 0) again", x.setLimits(0, 0), 0);
        DUE.is("setLimits(32, 100)", x.setLimits(32, 100), 1);
        DUE.is("setLimits(32, 100) again", x.setLimits(32, 100), 0);
    }

    private static void setThresholds() {
        DUE.at("promise 9");
        SpeculativeScheduler x = new SpeculativeScheduler();
        int[][] wrong = {{0, 1}, {201, 1}, {1, 0}, {1, 201}, {LEAST, 50}, {75, GREATEST}};
        for (int[] w : wrong) DUE.is("setThresholds(" + w[0] + ", " + w[1] + ")", x.setThresholds(w[0], w[1]), -4);
        DUE.is("setThresholds(75, 50): errors changed nothing", x.setThresholds(75, 50), 0);
        DUE.is("setThresholds(1, 50)", x.setThresholds(1, 50), 1);
        DUE.is("setThresholds(1, 1)", x.setThresholds(1, 1), 1);
        DUE.is("setThresholds(200, 200)", x.setThresholds(200, 200), 1);
        DUE.is("setThresholds(200, 200) again", x.setThresholds(200, 200), 0);
    }

    private static void tickAndTime() {
        DUE.at("promises 10 and 11");
        SpeculativeScheduler x = cluster(speeds(10, 10), 10, 20, 30);
        int[] wrong = {0, -1, 501, LEAST, GREATEST};
        for (int w : wrong) DUE.is("tick(" + w + ")", x.tick(w), -4);
        DUE.is("time(): errors changed nothing", x.time(), 0);
        DUE.is("attemptCount(): errors changed nothing", x.attemptCount(), 0);
        DUE.is("tick(1): task 0", x.tick(1), 1);
        DUE.is("time()", x.time(), 1);
        DUE.is("tick(500): tasks 1 and 2", x.tick(500), 2);
        DUE.is("time()", x.time(), 501);
        DUE.is("tick(1): all are DONE", x.tick(1), 0);
        DUE.is("attemptCount(): a task that is DONE starts no more", x.attemptCount(), 3);
        DUE.is("time()", x.time(), 502);
    }

    private static void taskQuestions() {
        DUE.at("promises 12, 13 and 14");
        SpeculativeScheduler x = cluster(speeds(10), 25, 10);
        int[] wrong = {-1, 2, 24, LEAST, GREATEST};
        for (int w : wrong) {
            DUE.is("taskState(" + w + ")", x.taskState(w), -2);
            DUE.is("committedAttempt(" + w + ")", x.committedAttempt(w), -2);
            DUE.is("finishTime(" + w + ")", x.finishTime(w), -2);
        }
        x.tick(2);
        DUE.is("taskState(0)", x.taskState(0), 1);
        DUE.is("taskState(1)", x.taskState(1), 0);
        DUE.is("committedAttempt(0)", x.committedAttempt(0), -6);
        DUE.is("finishTime(0)", x.finishTime(0), -6);
        x.tick(1);
        DUE.is("taskState(0)", x.taskState(0), 2);
        DUE.is("committedAttempt(0)", x.committedAttempt(0), 0);
        DUE.is("finishTime(0)", x.finishTime(0), 3);
        DUE.is("finishTime(1)", x.finishTime(1), -6);
        x.tick(7);
        DUE.is("committedAttempt(1)", x.committedAttempt(1), 1);
        DUE.is("finishTime(1)", x.finishTime(1), 4);
    }

    private static void makespan() {
        DUE.at("promise 15");
        SpeculativeScheduler x = cluster(speeds(5, 10), 40, 20);
        DUE.is("makespan() before", x.makespan(), -6);
        x.tick(2);
        DUE.is("makespan(): task 0 is not DONE", x.makespan(), -6);
        x.tick(20);
        DUE.is("makespan(): the greatest, not the last", x.makespan(), 8);
        x.addTask(1);
        DUE.is("makespan() with a new task", x.makespan(), -6);
        x.tick(1);
        DUE.is("makespan()", x.makespan(), 23);
    }

    private static void attemptQuestions() {
        DUE.at("promises 16 to 20");
        SpeculativeScheduler x = new SpeculativeScheduler();
        x.addNode(10, 2);
        x.addNode(10, 1);
        x.addTask(30);
        x.addTask(20);
        x.addTask(500);
        DUE.is("attemptCount()", x.attemptCount(), 0);
        DUE.is("attemptTask(0)", x.attemptTask(0), -3);
        x.tick(1);
        DUE.is("attemptCount()", x.attemptCount(), 3);
        int[] nodes = {0, 0, 1};
        for (int a = 0; a < 3; a++) {
            DUE.is("attemptTask(" + a + ")", x.attemptTask(a), a);
            DUE.is("attemptNode(" + a + ")", x.attemptNode(a), nodes[a]);
            DUE.is("attemptState(" + a + ")", x.attemptState(a), 1);
            DUE.is("isSpeculative(" + a + ")", x.isSpeculative(a), 0);
        }
        int[] wrong = {-1, 3, 200, LEAST, GREATEST};
        for (int w : wrong) {
            DUE.is("attemptTask(" + w + ")", x.attemptTask(w), -3);
            DUE.is("attemptNode(" + w + ")", x.attemptNode(w), -3);
            DUE.is("attemptState(" + w + ")", x.attemptState(w), -3);
            DUE.is("isSpeculative(" + w + ")", x.isSpeculative(w), -3);
            DUE.is("progress(" + w + ")", x.progress(w), -3);
            DUE.is("remainingTime(" + w + ")", x.remainingTime(w), -3);
        }
        x.tick(1);
        DUE.is("attemptState(1)", x.attemptState(1), 2);
        x.failNode(0);
        DUE.is("attemptState(0)", x.attemptState(0), 4);
        DUE.is("attemptTask(0) stays", x.attemptTask(0), 0);
        DUE.is("attemptNode(0) stays", x.attemptNode(0), 0);
    }

    private static void progress() {
        DUE.at("promise 21");
        SpeculativeScheduler x = cluster(speeds(7, 100), 30, 250);
        x.tick(1);
        DUE.is("progress(0): 7000 / 30", x.progress(0), 233);
        DUE.is("progress(1)", x.progress(1), 400);
        x.tick(2);
        DUE.is("progress(0)", x.progress(0), 700);
        DUE.is("progress(1): 300 of 250", x.progress(1), 1000);
        x.tick(1);
        x.failNode(0);
        DUE.is("progress(0) of a lost one", x.progress(0), 933);
    }

    private static void remainingTime() {
        DUE.at("promise 22");
        SpeculativeScheduler x = cluster(speeds(7, 0, 1), 100, 100, 10000);
        x.tick(3);
        DUE.is("remainingTime(0): 790 * 3 / 210", x.remainingTime(0), 11);
        DUE.is("remainingTime(1): no progress", x.remainingTime(1), 1000000);
        DUE.is("remainingTime(2): progress rounds to 0", x.remainingTime(2), 1000000);
        x.tick(7);
        DUE.is("remainingTime(2): 999 * 10 / 1", x.remainingTime(2), 9990);
        x.failNode(2);
        DUE.is("remainingTime(2) of a lost one", x.remainingTime(2), -6);
        x.tick(5);
        DUE.is("remainingTime(0) of a committed one", x.remainingTime(0), -6);
    }

    private static void nodeScore() {
        DUE.at("promise 23");
        SpeculativeScheduler x = new SpeculativeScheduler();
        x.addNode(10, 2);
        x.addTask(30);
        x.addTask(1000);
        DUE.is("nodeScore(-1)", x.nodeScore(-1), -1);
        DUE.is("nodeScore(1)", x.nodeScore(1), -1);
        DUE.is("nodeScore(LEAST)", x.nodeScore(LEAST), -1);
        DUE.is("nodeScore(0) without ages", x.nodeScore(0), 0);
        x.tick(3);
        DUE.is("nodeScore(0): 60 / 6", x.nodeScore(0), 10);
        x.setSpeed(0, 41);
        DUE.is("nodeScore(0) is of the past", x.nodeScore(0), 10);
        x.tick(1);
        DUE.is("nodeScore(0): 101 / 7, committed ones too", x.nodeScore(0), 14);
        x.failNode(0);
        x.repairNode(0);
        x.tick(1);
        DUE.is("nodeScore(0): 142 / 8, lost ones too", x.nodeScore(0), 17);
    }

    private static void nodeScoreOfKilledOnes() {
        DUE.at("promise 23, attempts of all states count");
        SpeculativeScheduler x = cluster(speeds(10, 10), 100);
        x.setLimits(2, 0);
        x.setThresholds(200, 1);
        x.tick(2);
        x.setSpeed(0, 79);
        x.setSpeed(1, 90);
        x.tick(1);
        DUE.is("attemptState(0)", x.attemptState(0), 3);
        DUE.is("nodeScore(0): 99 / 3, killed ones too", x.nodeScore(0), 33);
        DUE.is("nodeScore(1): 100 / 2", x.nodeScore(1), 50);
    }

    private static void isSlowNode() {
        DUE.at("promise 24");
        SpeculativeScheduler x = cluster(speeds(25, 75, 50), 10000, 10000);
        DUE.is("isSlowNode(-1)", x.isSlowNode(-1), -1);
        DUE.is("isSlowNode(3)", x.isSlowNode(3), -1);
        DUE.is("isSlowNode(0) without ages", x.isSlowNode(0), 0);
        x.tick(1);
        DUE.is("isSlowNode(0): 2500 is not less than 50 * 50", x.isSlowNode(0), 0);
        x.setThresholds(75, 51);
        DUE.is("isSlowNode(0): 2500 is less than 50 * 51", x.isSlowNode(0), 1);
        DUE.is("isSlowNode(1)", x.isSlowNode(1), 0);
        x.setThresholds(75, 200);
        DUE.is("isSlowNode(1): 7500 is less than 50 * 200", x.isSlowNode(1), 1);
        DUE.is("isSlowNode(2): it has no ages", x.isSlowNode(2), 0);
        x.setThresholds(75, 50);
        x.failNode(0);
        DUE.is("isSlowNode(0) down: 2500 is less than 75 * 50", x.isSlowNode(0), 1);
        x.failNode(1);
        DUE.is("isSlowNode(0): the mean of no nodes is 0", x.isSlowNode(0), 0);
        x.repairNode(0);
        DUE.is("isSlowNode(0) up alone", x.isSlowNode(0), 0);
    }

    private static void runningOn() {
        DUE.at("promise 25");
        SpeculativeScheduler x = new SpeculativeScheduler();
        x.addNode(10, 4);
        x.addNode(10, 2);
        for (int i = 0; i < 5; i++) x.addTask(i == 0 ? 10 : 20);
        DUE.is("runningOn(-1)", x.runningOn(-1), -1);
        DUE.is("runningOn(2)", x.runningOn(2), -1);
        DUE.is("runningOn(0)", x.runningOn(0), 0);
        x.tick(1);
        DUE.is("runningOn(0): one of four has committed", x.runningOn(0), 3);
        DUE.is("runningOn(1)", x.runningOn(1), 1);
        x.failNode(1);
        DUE.is("runningOn(1) down", x.runningOn(1), 0);
        x.tick(1);
        DUE.is("runningOn(0): only task 4, begun anew", x.runningOn(0), 1);
    }

    private static void wastedWork() {
        DUE.at("promise 28");
        SpeculativeScheduler x = cluster(speeds(10, 20), 100, 100);
        x.tick(3);
        DUE.is("wastedWork() of running ones", x.wastedWork(), 0);
        x.failNode(0);
        DUE.is("wastedWork()", x.wastedWork(), 30);
        x.tick(2);
        DUE.is("wastedWork(): a commit wastes nothing", x.wastedWork(), 30);
        x.tick(1);
        x.failNode(1);
        DUE.is("wastedWork()", x.wastedWork(), 50);
    }

    private static void simulatedMakespan() {
        DUE.at("promise 29");
        SpeculativeScheduler x = new SpeculativeScheduler();
        int[] wrong = {-1, 3, LEAST, GREATEST};
        for (int w : wrong) DUE.is("simulatedMakespan(" + w + ")", x.simulatedMakespan(w), -4);
        DUE.is("simulatedMakespan(0) without tasks", x.simulatedMakespan(0), -6);
        x.addTask(10000);
        DUE.is("simulatedMakespan(0) without nodes", x.simulatedMakespan(0), -6);
        x.addNode(5, 1);
        DUE.is("simulatedMakespan(0): the last tick counts", x.simulatedMakespan(0), 2000);
        x.addTask(1);
        DUE.is("simulatedMakespan(0): 2000 ticks are too few", x.simulatedMakespan(0), -6);
        x.setSpeed(0, 50);
        DUE.is("simulatedMakespan(1)", x.simulatedMakespan(1), 201);
        x.failNode(0);
        DUE.is("simulatedMakespan(2): the node is down", x.simulatedMakespan(2), -6);
        DUE.is("time(): nothing is changed", x.time(), 0);
        DUE.is("attemptCount(): nothing is changed", x.attemptCount(), 0);
        DUE.is("nodeScore(0): nothing is changed", x.nodeScore(0), 0);
        DUE.is("setPolicy(2): nothing is changed", x.setPolicy(2), 2);
    }

    private static void simulationUsesThePresent() {
        DUE.at("promise 29, present settings");
        SpeculativeScheduler x = cluster(speeds(40, 4, 40), 200, 200);
        x.setLimits(0, 3);
        DUE.is("simulatedMakespan(2): cap 0", x.simulatedMakespan(2), 50);
        // The second attempt starts in tick 5 (time 4) at the age of 4 and needs 5 ticks.
        x.setLimits(2, 4);
        DUE.is("simulatedMakespan(2): minimum age 4", x.simulatedMakespan(2), 9);
        x.setLimits(2, 100);
        DUE.is("simulatedMakespan(1): minimum age 100", x.simulatedMakespan(1), 50);
        x.setLimits(2, 3);
        x.setThresholds(1, 50);
        DUE.is("simulatedMakespan(2): task threshold 1", x.simulatedMakespan(2), 50);
        x.setThresholds(75, 50);
        x.tick(20);
        DUE.is("makespan()", x.makespan(), 8);
        DUE.is("simulatedMakespan(0): tasks that are DONE run again", x.simulatedMakespan(0), 50);
        DUE.is("simulatedMakespan(2): old scores do not count", x.simulatedMakespan(2), 8);
        DUE.is("simulatedMakespan(2) again", x.simulatedMakespan(2), 8);
        x.setSpeed(1, 8);
        x.failNode(2);
        DUE.is("simulatedMakespan(0): present speeds", x.simulatedMakespan(0), 25);
        DUE.is("simulatedMakespan(1): alone, measured by itself", x.simulatedMakespan(1), 25);
        DUE.is("time() stays", x.time(), 20);
        DUE.is("attemptCount() stays", x.attemptCount(), 3);
        DUE.is("makespan() stays", x.makespan(), 8);
    }

    /** When tasks 2 and 3 end at 4, task 4 starts on node 2, and then node 3 has a free slot. */
    private static void simulationKeepsNoProgress() {
        DUE.at("promise 29, no progress or rate of an earlier simulation");
        SpeculativeScheduler x = cluster(speeds(1, 100, 100, 100), 1000, 1000, 400, 400, 1000);
        SpeculativeScheduler y = cluster(speeds(40, 100, 100, 100), 1000, 1000, 400, 400, 1000);
        for (int i = 0; i < 3; i++) {
            DUE.is("simulatedMakespan(1): task 0 again from 6 on", x.simulatedMakespan(1), 16);
            DUE.is("simulatedMakespan(2): task 0 again from 5 on", y.simulatedMakespan(2), 15);
        }
    }

    private static void simulationKeepsNoScore() {
        DUE.at("promise 29, no score of the attempts so far");
        SpeculativeScheduler x = cluster(speeds(100, 2, 1), 1000, 300, 5);
        x.tick(5);
        x.setSpeed(2, 50);
        DUE.is("isSlowNode(2): of the past", x.isSlowNode(2), 1);
        DUE.is("simulatedMakespan(2): node 2 helps from 3 on", x.simulatedMakespan(2), 10);
        DUE.is("isSlowNode(2) stays", x.isSlowNode(2), 1);
    }

    private static void simulationAfterSimulation() {
        DUE.at("promise 29, one simulation after another");
        SpeculativeScheduler x = cluster(speeds(0, 0), 300, 300);
        DUE.is("simulatedMakespan(2): stuck with running attempts", x.simulatedMakespan(2), -6);
        x.setSpeed(0, 30);
        x.setSpeed(1, 30);
        DUE.is("simulatedMakespan(2)", x.simulatedMakespan(2), 10);
        for (int i = 0; i < 150; i++) DUE.is("simulatedMakespan(1) again", x.simulatedMakespan(1), 10);
        SpeculativeScheduler y = new SpeculativeScheduler();
        y.addNode(100, 1);
        y.addNode(1, 1);
        y.addNode(20, 2);
        y.addTask(10000);
        y.addTask(2000);
        y.addTask(2000);
        DUE.is("simulatedMakespan(2): node 2 helps from time 3", y.simulatedMakespan(2), 103);
        y.setThresholds(75, 51);
        DUE.is("simulatedMakespan(2): node 2 is slow", y.simulatedMakespan(2), 2000);
        y.setThresholds(75, 50);
        DUE.is("simulatedMakespan(2): node 2 helps again", y.simulatedMakespan(2), 103);
    }
}
