/**
 * The steps of a tick (promise 10), second attempts (promises 20 and 27) and the choice of the
 * straggler (promise 26).
 */
public final class TickTest extends Cases {
    public static void main(String[] args) {
        startingOrder();
        lateTakesTheGreatestRemainingTime();
        leastProgressIsNotGreatestRemainingTime();
        notOnItsOwnNode();
        cap();
        slowNode();
        slowNodeUnderNaive();
        slowNodeIsPassedOver();
        waitingTaskFirst();
        waitingTaskThenSecondAttempt();
        evaluatedAnewUnderNaive();
        evaluatedAnewUnderLate();
        secondAttemptWhereTheFirstWasLost();
        worksInItsFirstTick();
        bothFinishAtOnce();
        secondAttemptWins();
        firstAttemptLost();
        DUE.end();
    }

    private static void startingOrder() {
        DUE.at("starting order");
        SpeculativeScheduler x = new SpeculativeScheduler();
        x.addNode(1, 2);
        x.addNode(1, 1);
        x.addNode(1, 2);
        x.failNode(1);
        for (int i = 0; i < 5; i++) x.addTask(100);
        x.tick(1);
        int[] nodes = {0, 0, 2, 2};
        DUE.is("attemptCount()", x.attemptCount(), 4);
        for (int a = 0; a < 4; a++) {
            DUE.is("attemptTask(" + a + ")", x.attemptTask(a), a);
            DUE.is("attemptNode(" + a + ")", x.attemptNode(a), nodes[a]);
        }
        DUE.is("taskState(4)", x.taskState(4), 0);
        x.failNode(0);
        x.repairNode(1);
        x.tick(1);
        DUE.is("attemptTask(4): the lowest number first", x.attemptTask(4), 0);
        DUE.is("attemptNode(4)", x.attemptNode(4), 1);
        DUE.is("isSpeculative(4): none ran", x.isSpeculative(4), 0);
        DUE.is("taskState(1)", x.taskState(1), 0);
    }

    private static void lateTakesTheGreatestRemainingTime() {
        DUE.at("greatest remaining time");
        SpeculativeScheduler x = cluster(2, speeds(100, 10, 5), 10000, 10000, 10000);
        x.tick(10);
        DUE.is("remainingTime(1)", x.remainingTime(1), 990);
        DUE.is("remainingTime(2)", x.remainingTime(2), 1990);
        DUE.is("straggler()", x.straggler(), 2);
    }

    private static void leastProgressIsNotGreatestRemainingTime() {
        DUE.at("least progress or greatest remaining time");
        SpeculativeScheduler x = cluster(2, speeds(10), 10000);
        x.tick(300);
        x.addNode(20, 1);
        x.addNode(100, 1);
        x.addTask(1000);
        x.addTask(1000);
        x.tick(6);
        DUE.is("progress(0)", x.progress(0), 306);
        DUE.is("progress(1)", x.progress(1), 120);
        DUE.is("remainingTime(0)", x.remainingTime(0), 694);
        DUE.is("remainingTime(1)", x.remainingTime(1), 44);
        DUE.is("straggler() under LATE", x.straggler(), 0);
        x.setPolicy(1);
        DUE.is("straggler() under NAIVE: 320 is less than 342", x.straggler(), 1);
    }

    private static void notOnItsOwnNode() {
        DUE.at("not on its own node");
        SpeculativeScheduler x = new SpeculativeScheduler();
        x.setPolicy(1);
        x.addNode(5, 2);
        x.addNode(100, 1);
        x.addTask(1000);
        x.addTask(5);
        x.addTask(1000);
        x.tick(5);
        DUE.is("straggler(): 225 is less than 262", x.straggler(), 0);
        DUE.is("runningOn(0): a slot is free", x.runningOn(0), 1);
        x.tick(1);
        DUE.is("attemptCount()", x.attemptCount(), 3);
        x.addNode(50, 1);
        x.tick(1);
        DUE.is("attemptCount()", x.attemptCount(), 4);
        DUE.is("attemptTask(3)", x.attemptTask(3), 0);
        DUE.is("attemptNode(3)", x.attemptNode(3), 2);
        DUE.is("isSpeculative(3)", x.isSpeculative(3), 1);
        DUE.is("isSpeculative(0)", x.isSpeculative(0), 0);
        DUE.is("runningSpeculative()", x.runningSpeculative(), 1);
        DUE.is("straggler(): both of task 0 are no candidates", x.straggler(), -6);
    }

    private static SpeculativeScheduler twoStragglers(int cap) {
        SpeculativeScheduler x = cluster(1, speeds(5, 5, 100), 1000, 1000, 1000);
        x.setLimits(cap, 3);
        x.tick(9);
        x.addNode(50, 1);
        x.addNode(50, 1);
        x.tick(1);
        return x;
    }

    private static void cap() {
        DUE.at("cap");
        DUE.is("attemptCount() with cap 0", twoStragglers(0).attemptCount(), 3);
        SpeculativeScheduler one = twoStragglers(1);
        DUE.is("attemptCount() with cap 1", one.attemptCount(), 4);
        DUE.is("attemptTask(3) with cap 1", one.attemptTask(3), 0);
        SpeculativeScheduler two = twoStragglers(2);
        DUE.is("attemptCount() with cap 2", two.attemptCount(), 5);
        // Everything is evaluated anew for each slot: 45 + 200 is less than (45 + 45 + 900 + 0) / 4.
        DUE.is("attemptTask(4) with cap 2", two.attemptTask(4), 1);
        DUE.is("attemptNode(4) with cap 2", two.attemptNode(4), 4);
        DUE.is("runningSpeculative()", two.runningSpeculative(), 2);
        two.failNode(3);
        DUE.is("runningSpeculative() without node 3", two.runningSpeculative(), 1);
    }

    private static SpeculativeScheduler slowCluster(int policy) {
        SpeculativeScheduler x = new SpeculativeScheduler();
        x.setPolicy(policy);
        x.addNode(100, 1);
        x.addNode(10, 1);
        x.addNode(10, 2);
        for (int i = 0; i < 3; i++) x.addTask(10000);
        return x;
    }

    private static void slowNode() {
        DUE.at("slow node");
        SpeculativeScheduler x = slowCluster(2);
        x.tick(10);
        DUE.is("straggler()", x.straggler(), 1);
        DUE.is("isSlowNode(2): 1000 is less than 40 * 50", x.isSlowNode(2), 1);
        DUE.is("attemptCount()", x.attemptCount(), 3);
        x.setThresholds(75, 25);
        x.tick(1);
        DUE.is("attemptCount()", x.attemptCount(), 4);
        DUE.is("attemptTask(3)", x.attemptTask(3), 1);
        DUE.is("attemptNode(3)", x.attemptNode(3), 2);
    }

    private static void slowNodeUnderNaive() {
        DUE.at("slow node under naive");
        SpeculativeScheduler x = slowCluster(1);
        x.tick(66);
        DUE.is("straggler(): 266 is not less than 264", x.straggler(), -6);
        x.tick(1);
        DUE.is("straggler(): 267 is less than 268", x.straggler(), 1);
        x.tick(1);
        DUE.is("isSlowNode(2)", x.isSlowNode(2), 1);
        DUE.is("attemptTask(3)", x.attemptTask(3), 1);
        DUE.is("attemptNode(3)", x.attemptNode(3), 2);
    }

    private static void waitingTaskFirst() {
        DUE.at("waiting task first");
        SpeculativeScheduler x = cluster(2, speeds(100, 10), 10000, 10000);
        x.tick(5);
        DUE.is("straggler()", x.straggler(), 1);
        x.addNode(90, 1);
        x.addTask(500);
        x.tick(1);
        DUE.is("attemptTask(2)", x.attemptTask(2), 2);
        DUE.is("isSpeculative(2)", x.isSpeculative(2), 0);
    }

    private static void waitingTaskThenSecondAttempt() {
        DUE.at("the last waiting task, then a second attempt");
        SpeculativeScheduler x = cluster(2, speeds(100, 10), 10000, 10000);
        x.tick(5);
        x.addNode(90, 2);
        x.addTask(500);
        x.tick(1);
        DUE.is("attemptCount()", x.attemptCount(), 4);
        DUE.is("attemptTask(2)", x.attemptTask(2), 2);
        DUE.is("attemptTask(3)", x.attemptTask(3), 1);
        DUE.is("isSpeculative(3)", x.isSpeculative(3), 1);
    }

    private static void slowNodeIsPassedOver() {
        DUE.at("a slow node is passed over");
        SpeculativeScheduler x = slowCluster(2);
        x.addNode(30, 1);
        x.tick(4);
        DUE.is("isSlowNode(2), with a free slot", x.isSlowNode(2), 1);
        DUE.is("attemptCount()", x.attemptCount(), 4);
        DUE.is("attemptNode(3): the next node is visited", x.attemptNode(3), 3);
    }

    private static void evaluatedAnewUnderNaive() {
        DUE.at("evaluated anew for each slot, under NAIVE");
        SpeculativeScheduler x = cluster(1, speeds(0, 0, 65), 1000, 1000, 1000);
        x.tick(10);
        DUE.is("straggler(): 200 is less than 650 / 3", x.straggler(), 0);
        x.addNode(50, 2);
        x.tick(1);
        DUE.is("attemptCount(): 200 is not less than 650 / 4", x.attemptCount(), 4);
    }

    private static void evaluatedAnewUnderLate() {
        DUE.at("evaluated anew for each slot, under LATE");
        SpeculativeScheduler x = cluster(2, speeds(40, 41, 100), 1000, 1000, 1000);
        x.tick(3);
        DUE.is("straggler(): 40 and 41 are less than 60 * 75 / 100", x.straggler(), 0);
        x.addNode(50, 2);
        x.tick(1);
        DUE.is("attemptCount(): 41 is not less than 45 * 75 / 100", x.attemptCount(), 4);
    }

    private static void secondAttemptWhereTheFirstWasLost() {
        DUE.at("it does not run on this node, but a lost one did");
        SpeculativeScheduler x = cluster(2, speeds(10, 100), 10000, 10000);
        x.setThresholds(75, 1);
        x.tick(1);
        x.failNode(0);
        x.addNode(20, 1);
        x.tick(3);
        DUE.is("attemptNode(2): task 0 again", x.attemptNode(2), 2);
        x.repairNode(0);
        x.tick(1);
        DUE.is("attemptTask(3)", x.attemptTask(3), 0);
        DUE.is("attemptNode(3): back on node 0", x.attemptNode(3), 0);
    }

    private static void worksInItsFirstTick() {
        DUE.at("an attempt works in the tick that starts it");
        SpeculativeScheduler x = cluster(2, speeds(100), 100, 50);
        DUE.is("tick(1)", x.tick(1), 1);
        DUE.is("finishTime(0)", x.finishTime(0), 1);
        x.setSpeed(0, 10);
        x.tick(1);
        DUE.is("remainingTime(1): its age is 1, 800 * 1 / 200", x.remainingTime(1), 4);
    }

    /** Attempt 0 on node 0 has done 20 of 100, attempt 1 on node 1 has done 10. */
    private static SpeculativeScheduler twoAttempts() {
        SpeculativeScheduler x = cluster(2, speeds(10, 10), 100);
        x.setLimits(5, 0);
        x.setThresholds(200, 1);
        x.tick(2);
        DUE.is("attemptCount()", x.attemptCount(), 2);
        DUE.is("progress(0)", x.progress(0), 200);
        DUE.is("progress(1)", x.progress(1), 100);
        return x;
    }

    private static void bothFinishAtOnce() {
        DUE.at("both finish at once");
        SpeculativeScheduler x = twoAttempts();
        x.setSpeed(0, 80);
        x.setSpeed(1, 100);
        DUE.is("tick(1): one task", x.tick(1), 1);
        DUE.is("attemptState(0): the lower number commits", x.attemptState(0), 2);
        DUE.is("attemptState(1)", x.attemptState(1), 3);
        DUE.is("progress(1)", x.progress(1), 1000);
        DUE.is("wastedWork(): all of it", x.wastedWork(), 110);
        DUE.is("committedAttempt(0)", x.committedAttempt(0), 0);
        DUE.is("finishTime(0)", x.finishTime(0), 3);
        DUE.is("runningOn(0)", x.runningOn(0), 0);
        DUE.is("runningOn(1)", x.runningOn(1), 0);
        DUE.is("runningSpeculative()", x.runningSpeculative(), 0);
    }

    private static void secondAttemptWins() {
        DUE.at("second attempt wins");
        SpeculativeScheduler x = twoAttempts();
        x.setSpeed(0, 79);
        x.setSpeed(1, 90);
        DUE.is("tick(1)", x.tick(1), 1);
        DUE.is("attemptState(0)", x.attemptState(0), 3);
        DUE.is("attemptState(1)", x.attemptState(1), 2);
        DUE.is("committedAttempt(0)", x.committedAttempt(0), 1);
        DUE.is("wastedWork()", x.wastedWork(), 99);
        DUE.is("progress(0) stays", x.progress(0), 990);
        DUE.is("remainingTime(0)", x.remainingTime(0), -6);
        x.tick(5);
        DUE.is("progress(0) stays", x.progress(0), 990);
        DUE.is("attemptCount()", x.attemptCount(), 2);
    }

    private static void firstAttemptLost() {
        DUE.at("first attempt lost");
        SpeculativeScheduler x = twoAttempts();
        DUE.is("failNode(0)", x.failNode(0), 1);
        DUE.is("taskState(0)", x.taskState(0), 1);
        DUE.is("isSpeculative(1) stays", x.isSpeculative(1), 1);
        DUE.is("runningSpeculative()", x.runningSpeculative(), 1);
        DUE.is("straggler(): it is a candidate now", x.straggler(), 1);
        x.repairNode(0);
        x.tick(1);
        DUE.is("attemptNode(2)", x.attemptNode(2), 0);
        DUE.is("isSpeculative(2)", x.isSpeculative(2), 1);
        DUE.is("runningSpeculative()", x.runningSpeculative(), 2);
    }
}
