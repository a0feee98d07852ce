/** What is answered where there is nothing: no nodes, tasks, attempts, ages, progress or straggler. */
public final class NothingTest extends Cases {
    public static void main(String[] args) {
        noNodes();
        noTasks();
        nothingLeftToDo();
        nothingToLose();
        progressAtMost1000();
        progressAtAgeZero();
        rateAtAgeZero();
        meanRateWithAgesOfZero();
        onlyAgesOfZero();
        remainingTimeWithoutProgress();
        remainingTimeWithSomeProgress();
        scoreWithoutAges();
        scoreWithoutWork();
        meanScoreWithoutIdleNodes();
        meanScoreWithoutNodesThatAreDown();
        meanScoreOfNothing();
        meanOfNoAttempts();
        slowNodeNeedsAges();
        noSpeculation();
        noStraggler();
        makespanOfNoTasks();
        DUE.end();
    }

    private static void noNodes() {
        DUE.at("no nodes");
        SpeculativeScheduler x = new SpeculativeScheduler();
        x.addTask(1);
        DUE.is("tick(500)", x.tick(500), 0);
        DUE.is("time(): it grows all the same", x.time(), 500);
        DUE.is("attemptCount()", x.attemptCount(), 0);
        DUE.is("taskState(0)", x.taskState(0), 0);
        DUE.is("makespan()", x.makespan(), -6);
        DUE.is("simulatedMakespan(0)", x.simulatedMakespan(0), -6);
    }

    private static void noTasks() {
        DUE.at("no tasks");
        SpeculativeScheduler x = cluster(speeds(100, 0));
        DUE.is("tick(3)", x.tick(3), 0);
        DUE.is("time()", x.time(), 3);
        DUE.is("attemptCount()", x.attemptCount(), 0);
        DUE.is("runningOn(0)", x.runningOn(0), 0);
        DUE.is("runningSpeculative()", x.runningSpeculative(), 0);
        DUE.is("wastedWork()", x.wastedWork(), 0);
    }

    private static void nothingLeftToDo() {
        DUE.at("all tasks DONE");
        SpeculativeScheduler x = cluster(speeds(10, 10), 10);
        DUE.is("tick(1)", x.tick(1), 1);
        DUE.is("tick(5): none became DONE", x.tick(5), 0);
        DUE.is("attemptCount()", x.attemptCount(), 1);
        DUE.is("makespan()", x.makespan(), 1);
    }

    private static void nothingToLose() {
        DUE.at("promise 4: the number of attempts that became LOST is 0");
        SpeculativeScheduler x = cluster(speeds(10, 20), 10);
        DUE.is("failNode(0) before any tick", x.failNode(0), 0);
        DUE.is("failNode(0) again", x.failNode(0), -6);
        x.tick(1);
        DUE.is("failNode(1): its attempt has committed", x.failNode(1), 0);
        DUE.is("attemptState(0)", x.attemptState(0), 2);
        DUE.is("taskState(0): outputs that were committed stay", x.taskState(0), 2);
        DUE.is("wastedWork()", x.wastedWork(), 0);
    }

    private static void progressAtMost1000() {
        DUE.at("progress, but at most 1000");
        SpeculativeScheduler x = cluster(speeds(100, 100, 99, 100), 99, 100, 100, 10000);
        x.tick(1);
        DUE.is("progress(0): 100 of 99", x.progress(0), 1000);
        DUE.is("progress(1): 100 of 100", x.progress(1), 1000);
        DUE.is("progress(2): 99 of 100", x.progress(2), 990);
        x.tick(98);
        x.setSpeed(3, 99);
        x.tick(1);
        DUE.is("progress(3): 9999 of 10000", x.progress(3), 999);
        DUE.is("attemptState(3): it still runs", x.attemptState(3), 1);
        DUE.is("remainingTime(3): 1 * 100 / 999", x.remainingTime(3), 0);
    }

    /** A slot behind the newcomer, attempt 2: of what is the mean that the slot's visit sees? */
    private static void addNewcomer(SpeculativeScheduler x) {
        x.addNode(10, 2);
        x.addTask(1000);
        x.tick(1);
        DUE.is("attemptTask(2)", x.attemptTask(2), 2);
    }

    private static void progressAtAgeZero() {
        DUE.at("the progress of an attempt that has done no work yet");
        for (int progress = 602; progress <= 603; progress++) {
            SpeculativeScheduler x = cluster(1, speeds(0, 100), 1000, 1000);
            x.tick(6);
            x.setSpeed(1, progress - 600);
            x.tick(1);
            addNewcomer(x);
            // 200 is not less than (0 + 602 + 0) / 3, but less than (0 + 603 + 0) / 3.
            DUE.is("attemptCount() with " + progress, x.attemptCount(), progress == 602 ? 3 : 4);
        }
    }

    private static void meanRateWithAgesOfZero() {
        DUE.at("the mean rate with a rate of 0 at the age of 0");
        for (int threshold = 75; threshold <= 76; threshold++) {
            SpeculativeScheduler x = cluster(speeds(30, 90), 1000, 1000);
            x.setThresholds(threshold, 50);
            x.tick(4);
            addNewcomer(x);
            // 3000 is not less than (30 + 90 + 0) / 3 * 75, but less than that * 76.
            DUE.is("attemptCount() with " + threshold, x.attemptCount(), threshold == 75 ? 3 : 4);
        }
    }

    private static void rateAtAgeZero() {
        DUE.at("rate, 0 if its age is 0");
        SpeculativeScheduler x = cluster(speeds(100), 1000);
        x.setLimits(2, 0);
        x.setThresholds(150, 50);
        x.tick(1);
        x.addNode(10, 1);
        x.addNode(10, 1);
        x.addTask(1000);
        x.tick(1);
        // Behind attempt 1 of age 0 the mean rate is 50: attempt 0 with 100 is not slow, 1 is.
        DUE.is("attemptCount()", x.attemptCount(), 3);
        DUE.is("attemptTask(2)", x.attemptTask(2), 1);
    }

    private static void onlyAgesOfZero() {
        DUE.at("rates of 0 alone");
        SpeculativeScheduler x = cluster(speeds(100, 100), 1000);
        x.setLimits(2, 0);
        x.setThresholds(200, 50);
        x.tick(1);
        DUE.is("attemptCount(): 0 is not less than 0 * 200", x.attemptCount(), 1);
        x.tick(1);
        DUE.is("attemptCount(): 100 * 100 is less than 100 * 200", x.attemptCount(), 2);
    }

    private static void remainingTimeWithoutProgress() {
        DUE.at("remaining time, if its progress is 0, it is 1000000");
        SpeculativeScheduler x = cluster(speeds(0, 1), 1, 10000);
        x.tick(9);
        DUE.is("remainingTime(0): nothing done", x.remainingTime(0), 1000000);
        DUE.is("progress(1): 9 of 10000", x.progress(1), 0);
        DUE.is("remainingTime(1): 9 of 10000", x.remainingTime(1), 1000000);
        x.tick(500);
        DUE.is("remainingTime(0): whatever its age", x.remainingTime(0), 1000000);
    }

    private static void remainingTimeWithSomeProgress() {
        DUE.at("remaining time, with a progress of 1");
        SpeculativeScheduler x = cluster(speeds(1), 10000);
        x.tick(10);
        DUE.is("progress(0)", x.progress(0), 1);
        DUE.is("remainingTime(0): 999 * 10 / 1", x.remainingTime(0), 9990);
        x.setSpeed(0, 0);
        x.tick(500);
        x.tick(491);
        DUE.is("remainingTime(0): 999 * 1001 / 1", x.remainingTime(0), 999999);
        x.tick(1);
        DUE.is("remainingTime(0): 999 * 1002 / 1, no less for being above 1000000",
                x.remainingTime(0), 1000998);
    }

    private static void scoreWithoutAges() {
        DUE.at("score, 0 if that sum of ages is 0");
        SpeculativeScheduler x = cluster(speeds(100, 50), 1000);
        DUE.is("nodeScore(0)", x.nodeScore(0), 0);
        x.tick(1);
        DUE.is("nodeScore(0): a sum of 1", x.nodeScore(0), 100);
        DUE.is("nodeScore(1): it is up, but idle", x.nodeScore(1), 0);
    }

    private static void scoreWithoutWork() {
        DUE.at("score, with ages but no work");
        SpeculativeScheduler x = cluster(speeds(0, 60), 1000, 1000);
        x.tick(2);
        DUE.is("nodeScore(0)", x.nodeScore(0), 0);
        DUE.is("isSlowNode(0): 0 is less than 30 * 50", x.isSlowNode(0), 1);
        x.setThresholds(75, 200);
        DUE.is("isSlowNode(1): node 0 counts, 6000 is not less than 30 * 200", x.isSlowNode(1), 0);
    }

    private static void meanScoreWithoutIdleNodes() {
        DUE.at("mean score, of nodes that have a sum of ages above 0");
        SpeculativeScheduler x = cluster(speeds(30, 70, 100), 1000, 1000);
        x.setThresholds(75, 61);
        x.tick(1);
        DUE.is("isSlowNode(0): 3000 is less than 50 * 61", x.isSlowNode(0), 1);
    }

    private static void meanScoreWithoutNodesThatAreDown() {
        DUE.at("mean score, of nodes that are up");
        SpeculativeScheduler x = cluster(speeds(30, 40, 100), 1000, 1000, 1000);
        x.setThresholds(75, 60);
        x.tick(1);
        DUE.is("isSlowNode(0): 3000 is less than 56 * 60", x.isSlowNode(0), 1);
        x.failNode(2);
        DUE.is("isSlowNode(0): 3000 is not less than 35 * 60", x.isSlowNode(0), 0);
        x.repairNode(2);
        DUE.is("isSlowNode(0): node 2 counts again", x.isSlowNode(0), 1);
    }

    private static void meanScoreOfNothing() {
        DUE.at("a mean of nothing is 0, of scores");
        SpeculativeScheduler x = cluster(speeds(0, 50), 1000, 1000);
        x.setThresholds(75, 200);
        x.tick(1);
        x.failNode(0);
        x.failNode(1);
        DUE.is("isSlowNode(0): all are down, 0 is not less than 0", x.isSlowNode(0), 0);
        DUE.is("isSlowNode(1)", x.isSlowNode(1), 0);
        x.addNode(100, 1);
        DUE.is("isSlowNode(0): the one that is up has no ages", x.isSlowNode(0), 0);
        DUE.is("isSlowNode(1)", x.isSlowNode(1), 0);
    }

    private static void meanOfNoAttempts() {
        DUE.at("a mean of nothing is 0, of rates and progresses");
        SpeculativeScheduler x = cluster(speeds(10), 10);
        for (int policy = 0; policy < 3; policy++) {
            x.setPolicy(policy);
            DUE.is("straggler() before any attempt, policy " + policy, x.straggler(), -6);
        }
        x.tick(1);
        for (int policy = 0; policy < 3; policy++) {
            x.setPolicy(policy);
            DUE.is("straggler() when none runs any more, policy " + policy, x.straggler(), -6);
        }
    }

    private static void slowNodeNeedsAges() {
        DUE.at("a node is slow if its sum of ages is above 0");
        SpeculativeScheduler x = cluster(speeds(100, 10, 0), 10000, 10000);
        x.tick(3);
        DUE.is("isSlowNode(2) with a sum of 0", x.isSlowNode(2), 0);
        x.tick(1);
        DUE.is("attemptNode(2): so it got the second attempt", x.attemptNode(2), 2);
        DUE.is("isSlowNode(2) with a sum of 1", x.isSlowNode(2), 1);
    }

    private static void noSpeculation() {
        DUE.at("NO_SPECULATION: there is none");
        SpeculativeScheduler x = cluster(0, speeds(0, 100, 50), 1000, 10000);
        x.tick(50);
        DUE.is("straggler()", x.straggler(), -6);
        DUE.is("attemptCount()", x.attemptCount(), 2);
        x.setPolicy(1);
        DUE.is("straggler() under NAIVE", x.straggler(), 0);
        x.setPolicy(2);
        DUE.is("straggler() under LATE", x.straggler(), 0);
    }

    private static void noStraggler() {
        DUE.at("only if there is a straggler");
        for (int policy = 0; policy < 3; policy++) {
            SpeculativeScheduler x = cluster(policy, speeds(50, 50, 50), 1000, 1000);
            x.tick(19);
            DUE.is("straggler() with policy " + policy, x.straggler(), -6);
            DUE.is("attemptCount() with policy " + policy, x.attemptCount(), 2);
        }
    }

    private static void makespanOfNoTasks() {
        DUE.at("promises 15 and 29: NONE if there are no tasks");
        SpeculativeScheduler x = new SpeculativeScheduler();
        DUE.is("makespan()", x.makespan(), -6);
        x.addNode(100, 4);
        x.tick(1);
        DUE.is("makespan() with a node", x.makespan(), -6);
        for (int policy = 0; policy < 3; policy++) {
            DUE.is("simulatedMakespan(" + policy + ")", x.simulatedMakespan(policy), -6);
        }
    }
}
