/**
 * 'less than', 'at least', 'not less than', 'fewer than': each with equal sides and a step to
 * either side of them; and equal candidates, of which the one with the lowest number is chosen.
 */
public final class ComparisonsTest extends Cases {
    public static void main(String[] args) {
        slowAttempt();
        slowAttemptAndSecondAttempt();
        slowNode();
        slowNodeAndSecondAttempt();
        ageAtLeastTheMinimum();
        noOtherRunningAttempt();
        naiveLessThanTheMean();
        naiveAndSecondAttempt();
        meansOfAllRunningAttempts();
        equalUnderNaive();
        equalUnderLate();
        equalByRounding();
        equalAtAMillion();
        lowestNumberThatIsACandidate();
        slowCandidatesOnly();
        stragglerOnThisNode();
        fewerThanTheCap();
        workNotLessThanDue();
        bothReachTheEnd();
        onlyRunningOnesAreKilled();
        timeOfThisTickPlusOne();
        atLeastOneOfThemChanged();
        DUE.end();
    }

    private static void slowAttempt() {
        DUE.at("rate * 100 is less than mean rate * task threshold");
        SpeculativeScheduler x = cluster(speeds(30, 50), 1000, 1000);
        x.tick(5);
        DUE.is("straggler(): 3000 is not less than 40 * 75", x.straggler(), -6);
        x.setThresholds(76, 50);
        DUE.is("straggler(): 3000 is less than 40 * 76", x.straggler(), 0);
        x.setThresholds(74, 50);
        DUE.is("straggler(): 3000 is not less than 40 * 74", x.straggler(), -6);
    }

    private static void slowAttemptAndSecondAttempt() {
        DUE.at("a second attempt of one that is slow");
        SpeculativeScheduler x = cluster(speeds(30, 50, 50), 1000, 1000);
        x.tick(5);
        DUE.is("attemptCount(): the sides are equal", x.attemptCount(), 2);
        x.setThresholds(76, 50);
        x.tick(1);
        DUE.is("attemptCount(): 3000 is less than 40 * 76", x.attemptCount(), 3);
    }

    private static void slowNode() {
        DUE.at("score * 100 is less than mean score * node threshold");
        SpeculativeScheduler x = cluster(speeds(25, 75), 1000, 1000);
        x.tick(1);
        DUE.is("isSlowNode(0): 2500 is not less than 50 * 50", x.isSlowNode(0), 0);
        x.setThresholds(75, 51);
        DUE.is("isSlowNode(0): 2500 is less than 50 * 51", x.isSlowNode(0), 1);
        x.setThresholds(75, 49);
        DUE.is("isSlowNode(0): 2500 is not less than 50 * 49", x.isSlowNode(0), 0);
    }

    /** Attempt 1 on node 1 is the straggler, and a slot of node 2 alone is free. */
    private static SpeculativeScheduler helperOfSpeed(int speed) {
        SpeculativeScheduler x = cluster(speeds(100, 10), 10000, 10000, 10000);
        x.addNode(speed, 2);
        x.tick(3);
        DUE.is("straggler()", x.straggler(), 1);
        return x;
    }

    private static void slowNodeAndSecondAttempt() {
        DUE.at("with the policy LATE, this node is not slow");
        SpeculativeScheduler x = helperOfSpeed(22);
        DUE.is("isSlowNode(2): 2200 is not less than 44 * 50", x.isSlowNode(2), 0);
        x.tick(1);
        DUE.is("attemptCount()", x.attemptCount(), 4);
        DUE.is("runningOn(2)", x.runningOn(2), 2);
        SpeculativeScheduler y = helperOfSpeed(21);
        DUE.is("isSlowNode(2): 2100 is less than 43 * 50", y.isSlowNode(2), 1);
        y.tick(1);
        DUE.is("attemptCount() with a slow node", y.attemptCount(), 3);
    }

    private static void ageAtLeastTheMinimum() {
        DUE.at("age is at least the minimum age");
        SpeculativeScheduler x = cluster(speeds(100, 10, 50), 10000, 10000);
        x.tick(2);
        DUE.is("straggler() at the age of 2", x.straggler(), -6);
        x.tick(1);
        DUE.is("straggler() at the age of 3", x.straggler(), 1);
        DUE.is("attemptCount(): it was 2 when the third tick started", x.attemptCount(), 2);
        x.tick(1);
        DUE.is("attemptCount(): it was 3 when the fourth tick started", x.attemptCount(), 3);
        SpeculativeScheduler y = cluster(1, speeds(0, 100), 1000, 1000);
        y.setLimits(2, 5);
        y.tick(4);
        y.setLimits(2, 4);
        DUE.is("straggler() under NAIVE, 0 + 200 is not less than 200", y.straggler(), -6);
        y.setLimits(2, 6);
        y.tick(1);
        DUE.is("straggler() under NAIVE at 5 of 6", y.straggler(), -6);
        y.setLimits(2, 5);
        DUE.is("straggler() under NAIVE at 5 of 5", y.straggler(), 0);
    }

    private static void noOtherRunningAttempt() {
        DUE.at("whose task has no other running attempt");
        for (int lost = 1; lost <= 2; lost++) {
            SpeculativeScheduler x = cluster(speeds(100, 10, 50), 10000, 10000);
            x.tick(14);
            DUE.is("attemptTask(2)", x.attemptTask(2), 1);
            DUE.is("straggler(): attempts 1 and 2 are no candidates", x.straggler(), -6);
            x.failNode(lost);
            DUE.is("straggler() with attempt " + lost + " lost", x.straggler(), 3 - lost);
        }
    }

    private static void naiveLessThanTheMean() {
        DUE.at("progress + 200 is less than the mean progress");
        SpeculativeScheduler x = cluster(1, speeds(0, 2), 1000, 1000);
        x.tick(199);
        DUE.is("straggler(): 200 is not less than 199", x.straggler(), -6);
        x.tick(1);
        DUE.is("straggler(): 200 is not less than 200", x.straggler(), -6);
        x.tick(1);
        DUE.is("straggler(): 200 is less than 201", x.straggler(), 0);
    }

    private static void naiveAndSecondAttempt() {
        DUE.at("a second attempt under NAIVE");
        SpeculativeScheduler x = cluster(1, speeds(0, 2, 10), 1000, 1000);
        x.tick(201);
        DUE.is("attemptCount(): the sides were equal", x.attemptCount(), 2);
        x.tick(1);
        DUE.is("attemptCount(): 200 is less than 201", x.attemptCount(), 3);
    }

    private static void meansOfAllRunningAttempts() {
        DUE.at("the means count attempts that are no candidates");
        SpeculativeScheduler x = cluster(1, speeds(0), 1000);
        x.tick(3);
        x.addNode(50, 1);
        x.addTask(100);
        x.tick(1);
        DUE.is("straggler(): 200 is less than 250", x.straggler(), 0);
        x.setPolicy(2);
        DUE.is("straggler(): 0 is less than 250 * 75", x.straggler(), 0);
    }

    private static void equalUnderNaive() {
        DUE.at("equal candidates under NAIVE");
        SpeculativeScheduler x = cluster(1, speeds(50, 5, 100, 5), 1000, 1000, 1100, 1000);
        x.tick(9);
        DUE.is("progress(1)", x.progress(1), 45);
        DUE.is("progress(3)", x.progress(3), 45);
        DUE.is("straggler()", x.straggler(), 1);
        x.addNode(5, 1);
        x.tick(1);
        DUE.is("attemptTask(4)", x.attemptTask(4), 1);
        DUE.is("straggler(): attempt 1 is no candidate any more", x.straggler(), 3);
    }

    private static void equalUnderLate() {
        DUE.at("equal candidates under LATE");
        SpeculativeScheduler x = cluster(speeds(50, 5, 100, 5), 10000, 10000, 10000, 10000);
        x.tick(4);
        DUE.is("remainingTime(1)", x.remainingTime(1), 1996);
        DUE.is("remainingTime(3)", x.remainingTime(3), 1996);
        DUE.is("straggler()", x.straggler(), 1);
        x.addNode(100, 1);
        x.tick(1);
        DUE.is("attemptTask(4)", x.attemptTask(4), 1);
        DUE.is("straggler(): attempt 1 is no candidate any more", x.straggler(), 3);
    }

    private static void equalByRounding() {
        DUE.at("equal when rounded down");
        SpeculativeScheduler x = cluster(speeds(70, 70, 100), 995, 1000, 500);
        x.tick(3);
        DUE.is("progress(0)", x.progress(0), 211);
        DUE.is("progress(1)", x.progress(1), 210);
        DUE.is("remainingTime(0): 789 * 3 / 211", x.remainingTime(0), 11);
        DUE.is("remainingTime(1): 790 * 3 / 210", x.remainingTime(1), 11);
        DUE.is("straggler()", x.straggler(), 0);
    }

    /**
     * Two attempts of the same age, the one with a progress of 17 and the other without any. The
     * remaining time of the first is 999942, 1000000 and 1000057 at the ages 17293 to 17295.
     */
    private static void atAMillion(int speed0, int speed1, int[] due) {
        SpeculativeScheduler x = cluster(speeds(speed0, speed1), 1000, 1000);
        x.tick(1);
        x.setSpeed(0, 0);
        x.setSpeed(1, 0);
        for (int i = 0; i < 34; i++) x.tick(500);
        x.tick(291);
        x.addNode(100, 1);
        x.addTask(10000);
        for (int i = 0; i < due.length; i++) {
            x.tick(1);
            DUE.is("straggler() at the age of " + (17293 + i), x.straggler(), due[i]);
        }
        DUE.is("remainingTime of the one", x.remainingTime(speed0 > 0 ? 0 : 1), 1000057);
        DUE.is("remainingTime of the other", x.remainingTime(speed0 > 0 ? 1 : 0), 1000000);
    }

    private static void equalAtAMillion() {
        DUE.at("equal at 1000000, attempt 0 with progress");
        atAMillion(17, 0, new int[] {1, 0, 0});
        DUE.at("equal at 1000000, attempt 0 without progress");
        atAMillion(0, 17, new int[] {0, 0, 1});
    }

    private static void lowestNumberThatIsACandidate() {
        DUE.at("equal candidates, and one below them that is too young");
        SpeculativeScheduler x = cluster(speeds(100, 10, 10), 10000, 10000, 10000);
        x.tick(1);
        x.failNode(0);
        x.repairNode(0);
        x.setSpeed(0, 1);
        x.tick(2);
        x.addNode(100, 1);
        x.addTask(1000);
        x.tick(1);
        DUE.is("remainingTime(3): of age 3, the slowest", x.remainingTime(3), 1000000);
        DUE.is("straggler()", x.straggler(), 3);
        x.setLimits(2, 4);
        DUE.is("straggler(): attempt 1 before 2, of age 4", x.straggler(), 1);
        x.setLimits(2, 5);
        DUE.is("straggler(): all are too young", x.straggler(), -6);
    }

    private static void slowCandidatesOnly() {
        DUE.at("the slow candidate with the greatest remaining time");
        SpeculativeScheduler x = cluster(speeds(5), 1000);
        x.tick(190);
        x.addNode(10, 1);
        x.addTask(1000);
        x.setLimits(2, 1);
        x.tick(1);
        DUE.is("remainingTime(0)", x.remainingTime(0), 9);
        DUE.is("remainingTime(1)", x.remainingTime(1), 99);
        DUE.is("straggler(): of the rates 5 and 10 only 5 is slow", x.straggler(), 0);
    }

    private static void stragglerOnThisNode() {
        DUE.at("it does not run on this node");
        SpeculativeScheduler x = new SpeculativeScheduler();
        x.setThresholds(75, 1);
        x.addNode(10, 2);
        x.addNode(20, 1);
        x.addNode(100, 1);
        int[] works = {10000, 10, 10000, 10000};
        for (int work : works) x.addTask(work);
        x.tick(3);
        DUE.is("straggler(), on node 0", x.straggler(), 0);
        DUE.is("runningOn(0): a slot is free", x.runningOn(0), 1);
        x.tick(3);
        // Attempt 2 on node 1 is slow too, but it is not the straggler.
        DUE.is("attemptCount()", x.attemptCount(), 4);
        x.addNode(30, 1);
        x.tick(1);
        DUE.is("attemptTask(4)", x.attemptTask(4), 0);
        DUE.is("attemptNode(4)", x.attemptNode(4), 3);
        x.tick(1);
        DUE.is("attemptTask(5): now attempt 2 is the straggler", x.attemptTask(5), 2);
        DUE.is("attemptNode(5)", x.attemptNode(5), 0);
    }

    private static void fewerThanTheCap() {
        DUE.at("fewer speculative attempts are running than the cap allows");
        for (int cap = 0; cap <= 3; cap++) {
            SpeculativeScheduler x = cluster(speeds(1, 2, 3, 100), 10000, 10000, 10000, 10000);
            x.setLimits(cap, 3);
            x.tick(3);
            for (int i = 0; i < 3; i++) x.addNode(100, 1);
            x.tick(1);
            DUE.is("runningSpeculative() with the cap " + cap, x.runningSpeculative(), cap);
            x.setLimits(cap + 1, 3);
            x.tick(1);
            DUE.is("runningSpeculative() with one more", x.runningSpeculative(), Math.min(3, cap + 1));
        }
    }

    private static void workNotLessThanDue() {
        DUE.at("its work done is not less than the work of its task");
        SpeculativeScheduler x = cluster(speeds(10, 10, 10), 29, 30, 31);
        DUE.is("tick(2)", x.tick(2), 0);
        DUE.is("tick(1): 30 of 29 and 30 of 30", x.tick(1), 2);
        DUE.is("attemptState(0)", x.attemptState(0), 2);
        DUE.is("attemptState(1)", x.attemptState(1), 2);
        DUE.is("attemptState(2): 30 of 31", x.attemptState(2), 1);
        DUE.is("tick(1): 40 of 31", x.tick(1), 1);
        DUE.is("finishTime(2)", x.finishTime(2), 4);
    }

    /** Attempts 0 and 1 of task 0, with 20 and 10 of 100 done. */
    private static SpeculativeScheduler race() {
        SpeculativeScheduler x = cluster(speeds(10, 10), 100);
        x.setLimits(2, 0);
        x.setThresholds(200, 1);
        x.tick(2);
        return x;
    }

    private static void bothReachTheEnd() {
        DUE.at("becomes KILLED at once");
        SpeculativeScheduler x = race();
        x.setSpeed(0, 80);
        x.setSpeed(1, 100);
        DUE.is("tick(1): one task", x.tick(1), 1);
        DUE.is("attemptState(0): by ascending number", x.attemptState(0), 2);
        DUE.is("attemptState(1): though it has done more", x.attemptState(1), 3);
        DUE.is("committedAttempt(0)", x.committedAttempt(0), 0);
        DUE.is("progress(1): at most 1000", x.progress(1), 1000);
        DUE.is("wastedWork(): the work done, beyond 100 too", x.wastedWork(), 110);
        SpeculativeScheduler y = race();
        y.setSpeed(0, 79);
        y.setSpeed(1, 90);
        DUE.is("tick(1)", y.tick(1), 1);
        DUE.is("attemptState(0): 99 of 100", y.attemptState(0), 3);
        DUE.is("attemptState(1): 100 of 100", y.attemptState(1), 2);
    }

    private static void onlyRunningOnesAreKilled() {
        DUE.at("the other running attempt, if there is one");
        SpeculativeScheduler x = race();
        DUE.is("failNode(0)", x.failNode(0), 1);
        DUE.is("isSpeculative(1): another was running when it was started", x.isSpeculative(1), 1);
        DUE.is("taskState(0): at least one attempt is running", x.taskState(0), 1);
        x.tick(9);
        DUE.is("attemptState(0) stays LOST", x.attemptState(0), 4);
        DUE.is("attemptState(1)", x.attemptState(1), 2);
        DUE.is("wastedWork(): of LOST ones", x.wastedWork(), 20);
    }

    private static void timeOfThisTickPlusOne() {
        DUE.at("the finish time of the task is the time of this tick plus 1");
        SpeculativeScheduler x = cluster(speeds(10), 10, 10, 1);
        x.tick(3);
        for (int task = 0; task < 3; task++) DUE.is("finishTime", x.finishTime(task), task + 1);
        DUE.is("makespan()", x.makespan(), x.time());
    }

    private static void atLeastOneOfThemChanged() {
        DUE.at("promises 8 and 9: 1 if at least one of them changed, otherwise 0");
        SpeculativeScheduler x = new SpeculativeScheduler();
        DUE.is("setLimits(2, 3): neither", x.setLimits(2, 3), 0);
        DUE.is("setLimits(1, 3): the cap", x.setLimits(1, 3), 1);
        DUE.is("setLimits(1, 4): the age", x.setLimits(1, 4), 1);
        DUE.is("setLimits(2, 3): both", x.setLimits(2, 3), 1);
        DUE.is("setThresholds(75, 50): neither", x.setThresholds(75, 50), 0);
        DUE.is("setThresholds(76, 50): the task's", x.setThresholds(76, 50), 1);
        DUE.is("setThresholds(76, 51): the node's", x.setThresholds(76, 51), 1);
        DUE.is("setThresholds(75, 50): both", x.setThresholds(75, 50), 1);
    }
}
