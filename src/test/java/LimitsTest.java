/** What there can be at most: nodes, slots, tasks, attempts, calls and simulated ticks. */
public final class LimitsTest extends Cases {
    public static void main(String[] args) {
        eightNodes();
        twentyFourTasks();
        slots();
        slotsAreFreeInTheNextTick();
        everySlotOfEveryNode();
        twoHundredAttempts();
        twoHundredthIsSpeculative();
        noSecondAttemptBeyond200();
        workGoesOnBeyond200();
        wasteOf200Attempts();
        simulationBeyond200();
        simulationOf2000Ticks();
        simulationOf2001Ticks();
        ticksBeyond2000();
        time512();
        remainingTime512();
        score512();
        simulation512();
        DUE.end();
    }

    private static void eightNodes() {
        DUE.at("up to 8 nodes");
        SpeculativeScheduler x = new SpeculativeScheduler();
        for (int i = 0; i < 8; i++) DUE.is("addNode(10, 1)", x.addNode(10, 1), i);
        DUE.is("the ninth addNode(10, 1)", x.addNode(10, 1), -5);
        x.failNode(3);
        DUE.is("addNode(10, 1) while one is down", x.addNode(10, 1), -5);
        for (int i = 0; i < 9; i++) x.addTask(100);
        x.tick(1);
        DUE.is("attemptCount(): seven are up", x.attemptCount(), 7);
        DUE.is("attemptNode(6)", x.attemptNode(6), 7);
    }

    private static void twentyFourTasks() {
        DUE.at("up to 24 tasks");
        SpeculativeScheduler x = cluster(speeds(10));
        for (int i = 0; i < 24; i++) DUE.is("addTask(10)", x.addTask(10), i);
        DUE.is("the 25th addTask(10)", x.addTask(10), -5);
        DUE.is("tick(23)", x.tick(23), 23);
        DUE.is("makespan(): one is left", x.makespan(), -6);
        DUE.is("addTask(10): tasks that are DONE take room too", x.addTask(10), -5);
        DUE.is("tick(500)", x.tick(500), 1);
        DUE.is("makespan()", x.makespan(), 24);
        DUE.is("addTask(10) when all are DONE", x.addTask(10), -5);
    }

    private static void slots() {
        DUE.at("as long as the visited node has a free slot");
        for (int slots = 1; slots <= 4; slots++) {
            SpeculativeScheduler x = new SpeculativeScheduler();
            x.addNode(10, slots);
            for (int i = 0; i < 6; i++) x.addTask(100);
            x.tick(1);
            DUE.is("attemptCount() with " + slots, x.attemptCount(), slots);
            DUE.is("runningOn(0) with " + slots, x.runningOn(0), slots);
            x.tick(1);
            DUE.is("attemptCount() a tick later", x.attemptCount(), slots);
        }
    }

    private static void slotsAreFreeInTheNextTick() {
        DUE.at("a slot is free when its attempt has ended");
        SpeculativeScheduler x = cluster(speeds(10), 10, 10);
        x.tick(1);
        DUE.is("attemptCount(): task 0 committed in this tick", x.attemptCount(), 1);
        DUE.is("runningOn(0)", x.runningOn(0), 0);
        DUE.is("taskState(1)", x.taskState(1), 0);
        x.tick(1);
        DUE.is("attemptCount()", x.attemptCount(), 2);
    }

    private static void everySlotOfEveryNode() {
        DUE.at("8 nodes of 4 slots, 24 tasks");
        SpeculativeScheduler x = new SpeculativeScheduler();
        for (int i = 0; i < 8; i++) x.addNode(100, 4);
        for (int i = 0; i < 24; i++) x.addTask(10000);
        x.setLimits(32, 0);
        x.setThresholds(200, 1);
        x.tick(2);
        DUE.is("attemptCount()", x.attemptCount(), 32);
        for (int i = 0; i < 8; i++) DUE.is("runningOn(" + i + ")", x.runningOn(i), 4);
        DUE.is("straggler(): tasks 0 to 7 have two attempts", x.straggler(), 8);
        x.setPolicy(1);
        DUE.is("straggler() under NAIVE", x.straggler(), -6);
        DUE.is("tick(98)", x.tick(98), 24);
        DUE.is("wastedWork(): 8 attempts of 99 ticks", x.wastedWork(), 79200);
    }

    /** Takes the node down and up again and starts what waits, so many times. */
    private static void churn(SpeculativeScheduler x, int rounds) {
        for (int i = 0; i < rounds; i++) {
            x.failNode(0);
            x.repairNode(0);
            x.tick(1);
        }
    }

    /** After 198 attempts, of which none runs, the next tick could start three. */
    private static SpeculativeScheduler after198() {
        SpeculativeScheduler x = new SpeculativeScheduler();
        x.addNode(10, 3);
        for (int i = 0; i < 3; i++) x.addTask(100);
        churn(x, 66);
        DUE.is("attemptCount()", x.attemptCount(), 198);
        x.failNode(0);
        x.repairNode(0);
        return x;
    }

    private static void twoHundredAttempts() {
        DUE.at("up to 200 attempts in all");
        SpeculativeScheduler x = after198();
        x.tick(1);
        DUE.is("attemptCount()", x.attemptCount(), 200);
        DUE.is("attemptTask(198)", x.attemptTask(198), 0);
        DUE.is("attemptTask(199)", x.attemptTask(199), 1);
        DUE.is("attemptTask(200)", x.attemptTask(200), -3);
        DUE.is("runningOn(0): a slot stays free", x.runningOn(0), 2);
        DUE.is("taskState(2): it stays WAITING", x.taskState(2), 0);
    }

    /** Attempts 197 and 198 run tasks 0 and 1 on node 0, and both slots of node 1 are free. */
    private static SpeculativeScheduler after199() {
        SpeculativeScheduler x = new SpeculativeScheduler();
        x.setLimits(2, 0);
        x.setThresholds(200, 1);
        x.addNode(10, 2);
        x.addTask(1000);
        churn(x, 1);
        x.addTask(1000);
        churn(x, 99);
        DUE.is("attemptCount()", x.attemptCount(), 199);
        x.addNode(10, 2);
        return x;
    }

    private static void twoHundredthIsSpeculative() {
        DUE.at("the 200th attempt is a second one");
        SpeculativeScheduler x = after199();
        DUE.is("straggler()", x.straggler(), 197);
        x.tick(1);
        DUE.is("attemptCount()", x.attemptCount(), 200);
        DUE.is("attemptTask(199)", x.attemptTask(199), 0);
        DUE.is("isSpeculative(199)", x.isSpeculative(199), 1);
    }

    private static void noSecondAttemptBeyond200() {
        DUE.at("no attempt is started if there were 200 attempts already");
        SpeculativeScheduler x = after199();
        x.tick(1);
        DUE.is("straggler()", x.straggler(), 198);
        DUE.is("runningOn(1): a slot is free", x.runningOn(1), 1);
        DUE.is("runningSpeculative(): the cap is 2", x.runningSpeculative(), 1);
        x.tick(5);
        DUE.is("attemptCount()", x.attemptCount(), 200);
        DUE.is("runningOn(1)", x.runningOn(1), 1);
    }

    private static void workGoesOnBeyond200() {
        DUE.at("what runs goes on when there were 200 attempts");
        SpeculativeScheduler x = after198();
        x.tick(1);
        DUE.is("tick(9): the two that run", x.tick(9), 2);
        DUE.is("tick(500): task 2 waits for ever", x.tick(500), 0);
        DUE.is("attemptCount()", x.attemptCount(), 200);
        DUE.is("time()", x.time(), 576);
        DUE.is("finishTime(1)", x.finishTime(1), 76);
        DUE.is("failNode(0): none runs", x.failNode(0), 0);
        DUE.is("makespan()", x.makespan(), -6);
    }

    private static void wasteOf200Attempts() {
        DUE.at("wasted work of 200 attempts");
        SpeculativeScheduler x = new SpeculativeScheduler();
        x.addNode(100, 4);
        for (int i = 0; i < 4; i++) x.addTask(10000);
        for (int i = 0; i < 50; i++) {
            x.tick(99);
            DUE.is("failNode(0)", x.failNode(0), 4);
            x.repairNode(0);
        }
        DUE.is("attemptCount()", x.attemptCount(), 200);
        DUE.is("wastedWork(): 200 * 9900", x.wastedWork(), 1980000);
        DUE.is("nodeScore(0)", x.nodeScore(0), 100);
    }

    private static void simulationBeyond200() {
        DUE.at("promise 29: but no attempts");
        SpeculativeScheduler x = after198();
        x.tick(500);
        DUE.is("taskState(2)", x.taskState(2), 0);
        for (int policy = 0; policy < 3; policy++) {
            DUE.is("simulatedMakespan(" + policy + ")", x.simulatedMakespan(policy), 10);
        }
    }

    private static void simulationOf2000Ticks() {
        DUE.at("promise 29: it ends after 2000 ticks, DONE in the last of them");
        SpeculativeScheduler x = cluster(speeds(5), 9995, 5);
        for (int policy = 0; policy < 3; policy++) {
            DUE.is("simulatedMakespan(" + policy + ")", x.simulatedMakespan(policy), 2000);
        }
        SpeculativeScheduler y = cluster(speeds(5), 9994, 1);
        DUE.is("simulatedMakespan(0): 1999 + 1", y.simulatedMakespan(0), 2000);
        SpeculativeScheduler z = cluster(speeds(5), 9990, 5);
        DUE.is("simulatedMakespan(0): 1998 + 1", z.simulatedMakespan(0), 1999);
    }

    private static void simulationOf2001Ticks() {
        DUE.at("promise 29: NONE if a task is not DONE at the end");
        SpeculativeScheduler x = cluster(speeds(5), 9996, 1);
        for (int policy = 0; policy < 3; policy++) {
            DUE.is("simulatedMakespan(" + policy + ")", x.simulatedMakespan(policy), -6);
        }
        x.setSpeed(0, 6);
        DUE.is("simulatedMakespan(0): the present speed", x.simulatedMakespan(0), 1667);
        x.failNode(0);
        DUE.is("simulatedMakespan(0): the present state", x.simulatedMakespan(0), -6);
        x.repairNode(0);
        DUE.is("simulatedMakespan(0): up again", x.simulatedMakespan(0), 1667);
    }

    private static void ticksBeyond2000() {
        DUE.at("promise 10 has no end after 2000 ticks");
        SpeculativeScheduler x = cluster(speeds(5), 9996, 1);
        for (int i = 0; i < 5; i++) x.tick(500);
        DUE.is("makespan()", x.makespan(), 2001);
    }

    private static void time512() {
        DUE.at("512 calls: the time");
        SpeculativeScheduler x = new SpeculativeScheduler();
        for (int call = 1; call < 512; call++) DUE.is("tick(500)", x.tick(500), 0);
        DUE.is("time()", x.time(), 255500);
    }

    private static void remainingTime512() {
        DUE.at("512 calls: the greatest remaining time");
        SpeculativeScheduler x = cluster(speeds(1), 10000);
        x.tick(10);
        x.setSpeed(0, 0);
        for (int call = 5; call < 512; call++) x.tick(500);
        DUE.is("remainingTime(0): 999 * 253510 / 1", x.remainingTime(0), 253256490);
    }

    private static void score512() {
        DUE.at("512 calls: the greatest sum of ages");
        SpeculativeScheduler x = new SpeculativeScheduler();
        x.addNode(0, 4);
        for (int i = 0; i < 4; i++) x.addTask(10000);
        for (int call = 6; call < 509; call++) x.tick(500);
        x.setSpeed(0, 99);
        x.tick(100);
        DUE.is("isSlowNode(0)", x.isSlowNode(0), 0);
        // 4 * 9900 in 4 * 251600.
        DUE.is("nodeScore(0)", x.nodeScore(0), 0);
    }

    private static void simulation512() {
        DUE.at("512 calls: simulations");
        SpeculativeScheduler x = cluster(speeds(40, 4, 40), 200, 200);
        int[] due = {50, 8, 8};
        for (int call = 6; call <= 512; call++) {
            int policy = call % 3;
            DUE.is("simulatedMakespan(" + policy + ")", x.simulatedMakespan(policy), due[policy]);
        }
    }
}
