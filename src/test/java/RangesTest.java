/**
 * The least and the greatest value of every argument and the one beyond each: which are taken,
 * which are refused, and what the outermost ones that are taken do.
 */
public final class RangesTest extends Cases {
    public static void main(String[] args) {
        speedOfNewNode();
        slotsOfNewNode();
        speedSetLater();
        work();
        policy();
        cap();
        capOfZero();
        capOf32();
        minimumAge();
        minimumAgeOfZero();
        minimumAgeOf100();
        taskThreshold();
        taskThresholdOfOne();
        taskThresholdOf200();
        nodeThreshold();
        nodeThresholdOfOne();
        nodeThresholdOf200();
        ticks();
        simulatedPolicy();
        numbersOfNodes();
        numbersOfTasks();
        numbersOfAttempts();
        DUE.end();
    }

    /** The question is answered with BAD_VALUE just outside the range and far outside it. */
    private static void refusedOutside(int least, int greatest, Question question) {
        SpeculativeScheduler x = cluster(speeds(7), 30);
        int[] outside = {least - 1, greatest + 1, LEAST, GREATEST};
        for (int value : outside) DUE.is("with " + value, question.ask(x, value), -4);
    }

    private static void speedOfNewNode() {
        DUE.at("promise 2, speed: 0 to 100");
        refusedOutside(0, 100, (x, speed) -> x.addNode(speed, 1));
        SpeculativeScheduler x = new SpeculativeScheduler();
        DUE.is("addNode(0, 1)", x.addNode(0, 1), 0);
        DUE.is("addNode(100, 1)", x.addNode(100, 1), 1);
        x.addTask(100);
        x.addTask(100);
        DUE.is("tick(1): speed 100 does 100", x.tick(1), 1);
        DUE.is("taskState(1)", x.taskState(1), 2);
        DUE.is("progress(0): speed 0 does nothing", x.progress(0), 0);
    }

    private static void slotsOfNewNode() {
        DUE.at("promise 2, slots: 1 to 4");
        refusedOutside(1, 4, (x, slots) -> x.addNode(10, slots));
        SpeculativeScheduler x = new SpeculativeScheduler();
        DUE.is("addNode(10, 1)", x.addNode(10, 1), 0);
        DUE.is("addNode(10, 4)", x.addNode(10, 4), 1);
        for (int i = 0; i < 6; i++) x.addTask(1000);
        x.tick(1);
        DUE.is("runningOn(0)", x.runningOn(0), 1);
        DUE.is("runningOn(1)", x.runningOn(1), 4);
        DUE.is("taskState(5): no slot is left", x.taskState(5), 0);
    }

    private static void speedSetLater() {
        DUE.at("promise 3, speed: 0 to 100");
        refusedOutside(0, 100, (x, speed) -> x.setSpeed(0, speed));
        SpeculativeScheduler x = cluster(speeds(7), 1000);
        DUE.is("setSpeed(0, 0)", x.setSpeed(0, 0), 7);
        x.tick(1);
        DUE.is("progress(0) with speed 0", x.progress(0), 0);
        DUE.is("setSpeed(0, 100)", x.setSpeed(0, 100), 0);
        x.tick(1);
        DUE.is("progress(0) with speed 100", x.progress(0), 100);
        DUE.is("setSpeed(0, 1)", x.setSpeed(0, 1), 100);
    }

    private static void work() {
        DUE.at("promise 6, work: 1 to 10000");
        refusedOutside(1, 10000, (x, work) -> x.addTask(work));
        SpeculativeScheduler x = cluster(speeds(1, 100));
        DUE.is("addTask(1)", x.addTask(1), 0);
        DUE.is("addTask(10000)", x.addTask(10000), 1);
        DUE.is("tick(1): 1 of 1", x.tick(1), 1);
        DUE.is("progress(0)", x.progress(0), 1000);
        DUE.is("tick(98): 9900 of 10000", x.tick(98), 0);
        DUE.is("tick(1): 10000 of 10000", x.tick(1), 1);
    }

    private static void policy() {
        DUE.at("promise 7, policy: NO_SPECULATION, NAIVE or LATE");
        refusedOutside(0, 2, (x, policy) -> x.setPolicy(policy));
        SpeculativeScheduler x = new SpeculativeScheduler();
        DUE.is("setPolicy(0)", x.setPolicy(0), 2);
        DUE.is("setPolicy(1)", x.setPolicy(1), 0);
        DUE.is("setPolicy(2)", x.setPolicy(2), 1);
        DUE.is("setPolicy(2) again", x.setPolicy(2), 2);
    }

    private static void cap() {
        DUE.at("promise 8, cap: 0 to 32");
        refusedOutside(0, 32, (x, cap) -> x.setLimits(cap, 3));
        SpeculativeScheduler x = new SpeculativeScheduler();
        DUE.is("setLimits(0, 3)", x.setLimits(0, 3), 1);
        DUE.is("setLimits(0, 3) again", x.setLimits(0, 3), 0);
        DUE.is("setLimits(32, 3)", x.setLimits(32, 3), 1);
        DUE.is("setLimits(32, 3) again", x.setLimits(32, 3), 0);
        DUE.is("setLimits(32, 4): only the age changes", x.setLimits(32, 4), 1);
    }

    private static void capOfZero() {
        DUE.at("promise 8, a cap of 0");
        SpeculativeScheduler x = cluster(speeds(100, 10, 50), 10000, 10000);
        x.setLimits(0, 3);
        x.tick(5);
        DUE.is("straggler()", x.straggler(), 1);
        DUE.is("attemptCount(): no second attempt", x.attemptCount(), 2);
        x.setLimits(1, 3);
        x.tick(1);
        DUE.is("attemptCount() with a cap of 1", x.attemptCount(), 3);
    }

    /**
     * Sixteen tasks run on nodes 0 to 3 and get second attempts on nodes 4 to 7; those stay
     * speculative when nodes 0 to 3 fail, and get second attempts there themselves.
     */
    private static SpeculativeScheduler onlySpeculative(int cap) {
        SpeculativeScheduler x = new SpeculativeScheduler();
        x.setLimits(cap, 1);
        x.setThresholds(200, 1);
        for (int i = 0; i < 4; i++) x.addNode(100, 4);
        for (int i = 0; i < 16; i++) x.addTask(1000);
        x.tick(1);
        for (int i = 0; i < 4; i++) x.addNode(100, 4);
        x.tick(1);
        DUE.is("runningSpeculative() on nodes 4 to 7", x.runningSpeculative(), 16);
        for (int i = 0; i < 4; i++) x.failNode(i);
        for (int i = 0; i < 4; i++) x.repairNode(i);
        x.tick(1);
        return x;
    }

    private static void capOf32() {
        DUE.at("promise 8, a cap of 32");
        DUE.is("runningSpeculative()", onlySpeculative(32).runningSpeculative(), 32);
        DUE.at("promise 8, a cap of 31");
        DUE.is("runningSpeculative()", onlySpeculative(31).runningSpeculative(), 31);
    }

    private static void minimumAge() {
        DUE.at("promise 8, minimumAge: 0 to 100");
        refusedOutside(0, 100, (x, age) -> x.setLimits(2, age));
        SpeculativeScheduler x = new SpeculativeScheduler();
        DUE.is("setLimits(2, 0)", x.setLimits(2, 0), 1);
        DUE.is("setLimits(2, 0) again", x.setLimits(2, 0), 0);
        DUE.is("setLimits(2, 100)", x.setLimits(2, 100), 1);
        DUE.is("setLimits(2, 100) again", x.setLimits(2, 100), 0);
        DUE.is("setLimits(3, 100): only the cap changes", x.setLimits(3, 100), 1);
    }

    /** Attempt 1 starts on node 1 in the second tick, and node 2 is visited behind it. */
    private static SpeculativeScheduler newcomer(int minimumAge) {
        SpeculativeScheduler x = cluster(speeds(100), 1000);
        x.setLimits(2, minimumAge);
        x.tick(1);
        x.addNode(10, 1);
        x.addNode(10, 1);
        x.addTask(1000);
        x.tick(1);
        return x;
    }

    private static void minimumAgeOfZero() {
        DUE.at("promise 8, a minimum age of 0");
        SpeculativeScheduler x = newcomer(0);
        DUE.is("attemptCount(): a second attempt in the same tick", x.attemptCount(), 3);
        DUE.is("attemptTask(2)", x.attemptTask(2), 1);
        DUE.at("promise 8, a minimum age of 1");
        SpeculativeScheduler y = newcomer(1);
        DUE.is("attemptCount(): an attempt of age 0 is too young", y.attemptCount(), 2);
        y.tick(1);
        DUE.is("attemptCount() a tick later", y.attemptCount(), 3);
    }

    private static void minimumAgeOf100() {
        DUE.at("promise 8, a minimum age of 100");
        SpeculativeScheduler x = cluster(speeds(100, 10), 10000, 10000);
        x.setLimits(2, 100);
        x.tick(99);
        DUE.is("straggler() at the age of 99", x.straggler(), -6);
        x.addTask(10000);
        x.addNode(100, 1);
        x.tick(1);
        DUE.is("straggler() at the age of 100", x.straggler(), 1);
    }

    private static void taskThreshold() {
        DUE.at("promise 9, task: 1 to 200");
        refusedOutside(1, 200, (x, threshold) -> x.setThresholds(threshold, 50));
        SpeculativeScheduler x = new SpeculativeScheduler();
        DUE.is("setThresholds(1, 50)", x.setThresholds(1, 50), 1);
        DUE.is("setThresholds(1, 50) again", x.setThresholds(1, 50), 0);
        DUE.is("setThresholds(200, 50)", x.setThresholds(200, 50), 1);
        DUE.is("setThresholds(200, 50) again", x.setThresholds(200, 50), 0);
        DUE.is("setThresholds(200, 51): only the node's changes", x.setThresholds(200, 51), 1);
    }

    private static void taskThresholdOfOne() {
        DUE.at("promise 9, a task threshold of 1");
        SpeculativeScheduler x = cluster(speeds(1, 100), 1000, 502);
        x.setThresholds(1, 50);
        x.tick(3);
        DUE.is("straggler(): 1 * 100 is not less than 100 * 1", x.straggler(), -6);
        SpeculativeScheduler y = cluster(speeds(1, 100), 1000, 497);
        y.setThresholds(1, 50);
        y.tick(3);
        DUE.is("straggler(): 1 * 100 is less than 101 * 1", y.straggler(), 0);
    }

    private static void taskThresholdOf200() {
        DUE.at("promise 9, a task threshold of 200");
        SpeculativeScheduler x = cluster(speeds(99), 248);
        x.setLimits(2, 2);
        x.tick(1);
        x.addNode(1, 1);
        x.addTask(1000);
        x.tick(1);
        // The rates are 399 and 1, and attempt 1 is too young to be a candidate.
        x.setThresholds(199, 50);
        DUE.is("straggler(): 39900 is not less than 200 * 199", x.straggler(), -6);
        x.setThresholds(200, 50);
        DUE.is("straggler(): 39900 is less than 200 * 200", x.straggler(), 0);
    }

    private static void nodeThreshold() {
        DUE.at("promise 9, node: 1 to 200");
        refusedOutside(1, 200, (x, threshold) -> x.setThresholds(75, threshold));
        SpeculativeScheduler x = new SpeculativeScheduler();
        DUE.is("setThresholds(75, 1)", x.setThresholds(75, 1), 1);
        DUE.is("setThresholds(75, 1) again", x.setThresholds(75, 1), 0);
        DUE.is("setThresholds(75, 200)", x.setThresholds(75, 200), 1);
        DUE.is("setThresholds(75, 200) again", x.setThresholds(75, 200), 0);
        DUE.is("setThresholds(76, 200): only the task's changes", x.setThresholds(76, 200), 1);
    }

    private static void nodeThresholdOfOne() {
        DUE.at("promise 9, a node threshold of 1");
        SpeculativeScheduler x = cluster(speeds(1, 100, 0), 10000, 10000, 10000);
        x.setThresholds(75, 1);
        x.tick(1);
        x.failNode(0);
        x.failNode(2);
        DUE.is("isSlowNode(0): 1 * 100 is not less than 100 * 1", x.isSlowNode(0), 0);
        DUE.is("isSlowNode(2): 0 * 100 is less than 100 * 1", x.isSlowNode(2), 1);
    }

    private static void nodeThresholdOf200() {
        DUE.at("promise 9, a node threshold of 200");
        SpeculativeScheduler x = cluster(speeds(100, 99, 50), 10000, 10000, 10000);
        x.setThresholds(75, 200);
        x.tick(1);
        x.failNode(0);
        x.failNode(1);
        DUE.is("isSlowNode(0): 100 * 100 is not less than 50 * 200", x.isSlowNode(0), 0);
        DUE.is("isSlowNode(1): 99 * 100 is less than 50 * 200", x.isSlowNode(1), 1);
    }

    private static void ticks() {
        DUE.at("promise 10, ticks: 1 to 500");
        refusedOutside(1, 500, (x, ticks) -> x.tick(ticks));
        SpeculativeScheduler x = cluster(speeds(2), 1002);
        DUE.is("tick(1)", x.tick(1), 0);
        DUE.is("time()", x.time(), 1);
        DUE.is("tick(500): 1002 of 1002 in the last of them", x.tick(500), 1);
        DUE.is("time()", x.time(), 501);
        DUE.is("finishTime(0)", x.finishTime(0), 501);
    }

    private static void simulatedPolicy() {
        DUE.at("promise 29, policy: NO_SPECULATION, NAIVE or LATE");
        refusedOutside(0, 2, (x, policy) -> x.simulatedMakespan(policy));
        SpeculativeScheduler x = cluster(speeds(100, 2, 50), 1000, 300);
        DUE.is("simulatedMakespan(0): 300 / 2", x.simulatedMakespan(0), 150);
        // After 5 ticks the progresses are 500 and 33; node 2 then needs 6 ticks.
        DUE.is("simulatedMakespan(1)", x.simulatedMakespan(1), 11);
        DUE.is("simulatedMakespan(2): task 1 at 3 + 6, task 0 at 10", x.simulatedMakespan(2), 10);
    }

    /** The first is answered with the one answer, the last with the other, none beyond them. */
    private static void numbers(SpeculativeScheduler x, Question question, int count, int[] due) {
        int refusal = due[2];
        int[] beyond = {-1, count, LEAST, GREATEST};
        for (int number : beyond) DUE.is("of " + number, question.ask(x, number), refusal);
        DUE.is("of 0", question.ask(x, 0), due[0]);
        DUE.is("of " + (count - 1), question.ask(x, count - 1), due[1]);
    }

    private static int[] due(int ofFirst, int ofLast, int refusal) {
        return new int[] {ofFirst, ofLast, refusal};
    }

    private static void numbersOfNodes() {
        nodeNumbers("promise 3, node of setSpeed", (x, node) -> x.setSpeed(node, 5), 10, 20);
        nodeNumbers("promise 4, node of failNode", (x, node) -> x.failNode(node), 1, 1);
        nodeNumbers("promise 5, node of repairNode", (x, node) -> x.repairNode(node), 0, 0);
        nodeNumbers("promise 23, node of nodeScore", (x, node) -> x.nodeScore(node), 10, 20);
        nodeNumbers("promise 24, node of isSlowNode", (x, node) -> x.isSlowNode(node), 1, 0);
        nodeNumbers("promise 25, node of runningOn", (x, node) -> x.runningOn(node), 1, 1);
    }

    private static void nodeNumbers(String place, Question question, int ofFirst, int ofLast) {
        DUE.at(place);
        DUE.is("of 0, without nodes", question.ask(new SpeculativeScheduler(), 0), -1);
        numbers(nodesThatRun(3), question, 3, due(ofFirst, ofLast, -1));
        numbers(nodesThatRun(8), question, 8, due(ofFirst, ofLast, -1));
    }

    /** Node 0 has speed 10, the others have 20. */
    private static SpeculativeScheduler nodesThatRun(int count) {
        SpeculativeScheduler x = new SpeculativeScheduler();
        x.setThresholds(75, 70);
        for (int i = 0; i < count; i++) {
            x.addNode(i == 0 ? 10 : 20, 1);
            x.addTask(1000);
        }
        x.tick(1);
        return x;
    }

    private static void numbersOfTasks() {
        taskNumbers("promise 12, task of taskState", (x, task) -> x.taskState(task), 2, 0);
        taskNumbers("promise 13, task of committedAttempt", (x, task) -> x.committedAttempt(task), 0, -6);
        taskNumbers("promise 14, task of finishTime", (x, task) -> x.finishTime(task), 1, -6);
    }

    private static void taskNumbers(String place, Question question, int ofFirst, int ofLast) {
        DUE.at(place);
        DUE.is("of 0, without tasks", question.ask(new SpeculativeScheduler(), 0), -2);
        numbers(tasksInARow(3), question, 3, due(ofFirst, ofLast, -2));
        numbers(tasksInARow(24), question, 24, due(ofFirst, ofLast, -2));
    }

    /** Task 0 is DONE, the others are WAITING. */
    private static SpeculativeScheduler tasksInARow(int count) {
        SpeculativeScheduler x = cluster(speeds(10));
        for (int i = 0; i < count; i++) x.addTask(10);
        x.tick(1);
        return x;
    }

    private static void numbersOfAttempts() {
        attemptNumbers("promise 17, attempt of attemptTask", (x, a) -> x.attemptTask(a), 0, 1);
        attemptNumbers("promise 18, attempt of attemptNode", (x, a) -> x.attemptNode(a), 0, 0);
        attemptNumbers("promise 19, attempt of attemptState", (x, a) -> x.attemptState(a), 4, 1);
        attemptNumbers("promise 20, attempt of isSpeculative", (x, a) -> x.isSpeculative(a), 0, 0);
        attemptNumbers("promise 21, attempt of progress", (x, a) -> x.progress(a), 100, 200);
        attemptNumbers("promise 22, attempt of remainingTime", (x, a) -> x.remainingTime(a), -6, 4);
    }

    private static void attemptNumbers(String place, Question question, int ofFirst, int ofLast) {
        DUE.at(place);
        DUE.is("of 0, without attempts", question.ask(new SpeculativeScheduler(), 0), -3);
        numbers(attemptsInARow(2), question, 4, due(ofFirst, ofLast, -3));
        numbers(attemptsInARow(100), question, 200, due(ofFirst, ofLast, -3));
    }

    /** In each round an attempt of task 0 and one of task 1; only those of the last still run. */
    private static SpeculativeScheduler attemptsInARow(int rounds) {
        SpeculativeScheduler x = new SpeculativeScheduler();
        x.addNode(10, 2);
        x.addTask(100);
        x.addTask(50);
        for (int i = 0; i < rounds; i++) {
            x.failNode(0);
            x.repairNode(0);
            x.tick(1);
        }
        return x;
    }
}
