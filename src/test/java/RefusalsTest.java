import java.util.function.ToIntFunction;

/**
 * 'Each method lists its errors in the order in which they are checked. An error changes
 * nothing.': every refusal of every promise, and a twin that was not asked to compare with.
 */
public final class RefusalsTest extends Cases {
    public static void main(String[] args) {
        valueBeforeFullNodes();
        nodeBeforeSpeed();
        valueBeforeFullTasks();
        policyBeforeNoTasks();
        clusterIsRefused();
        jobIsRefused();
        fullIsRefused();
        settingsAreRefused();
        ticksAreRefused();
        noSuchTask();
        taskNotDone();
        noSuchAttempt();
        attemptNotRunning();
        noSuchNode();
        simulationChangesNothing();
        simulationWithoutAnEndChangesNothing();
        DUE.end();
    }

    /** Nodes 0 to 3, of which 2 is down; tasks 0 to 4; attempts that run, committed or are lost. */
    private static SpeculativeScheduler midway() {
        SpeculativeScheduler x = new SpeculativeScheduler();
        x.setPolicy(1);
        x.setLimits(3, 1);
        x.setThresholds(90, 40);
        x.addNode(10, 2);
        x.addNode(50, 1);
        x.addNode(20, 1);
        x.addNode(30, 1);
        int[] works = {500, 60, 200, 120, 400};
        for (int work : works) x.addTask(work);
        x.tick(5);
        x.failNode(2);
        return x;
    }

    /** The call gives its answer, and the object stays as its twin that was not asked. */
    private static void changesNothing(String call, ToIntFunction<SpeculativeScheduler> asked, int due) {
        SpeculativeScheduler x = midway();
        SpeculativeScheduler twin = midway();
        DUE.is(call, asked.applyAsInt(x), due);
        staysAs(call, x, twin);
    }

    private static void staysAs(String call, SpeculativeScheduler x, SpeculativeScheduler twin) {
        DUE.same(call + ", what is asked then", Answers.now(x), Answers.now(twin));
        DUE.is(call + ", then setPolicy(1)", x.setPolicy(1), twin.setPolicy(1));
        DUE.is(call + ", then setLimits(3, 1)", x.setLimits(3, 1), twin.setLimits(3, 1));
        DUE.is(call + ", then setThresholds(90, 40)", x.setThresholds(90, 40), twin.setThresholds(90, 40));
        DUE.same(call + ", what it does then", Answers.later(x), Answers.later(twin));
    }

    private static void valueBeforeFullNodes() {
        DUE.at("promise 2: BAD_VALUE; FULL");
        SpeculativeScheduler x = fullOfNodes();
        DUE.is("addNode(10, 1)", x.addNode(10, 1), -5);
        DUE.is("addNode(-1, 1)", x.addNode(-1, 1), -4);
        DUE.is("addNode(101, 1)", x.addNode(101, 1), -4);
        DUE.is("addNode(10, 0)", x.addNode(10, 0), -4);
        DUE.is("addNode(10, 5)", x.addNode(10, 5), -4);
    }

    private static void nodeBeforeSpeed() {
        DUE.at("promise 3: NO_SUCH_NODE; BAD_VALUE");
        SpeculativeScheduler x = cluster(speeds(10));
        DUE.is("setSpeed(1, 101)", x.setSpeed(1, 101), -1);
        DUE.is("setSpeed(-1, -1)", x.setSpeed(-1, -1), -1);
        DUE.is("setSpeed(0, 101)", x.setSpeed(0, 101), -4);
    }

    private static void valueBeforeFullTasks() {
        DUE.at("promise 6: BAD_VALUE; FULL");
        SpeculativeScheduler x = fullOfTasks();
        DUE.is("addTask(10)", x.addTask(10), -5);
        DUE.is("addTask(0)", x.addTask(0), -4);
        DUE.is("addTask(10001)", x.addTask(10001), -4);
    }

    private static void policyBeforeNoTasks() {
        DUE.at("promise 29: BAD_VALUE; NONE");
        SpeculativeScheduler x = new SpeculativeScheduler();
        DUE.is("simulatedMakespan(0) without tasks", x.simulatedMakespan(0), -6);
        DUE.is("simulatedMakespan(3) without tasks", x.simulatedMakespan(3), -4);
        x.addTask(10);
        DUE.is("simulatedMakespan(0) without nodes", x.simulatedMakespan(0), -6);
        DUE.is("simulatedMakespan(-1) without nodes", x.simulatedMakespan(-1), -4);
    }

    private static void clusterIsRefused() {
        DUE.at("promise 2 changes nothing");
        changesNothing("addNode(-1, 1)", x -> x.addNode(-1, 1), -4);
        changesNothing("addNode(101, 1)", x -> x.addNode(101, 1), -4);
        changesNothing("addNode(10, 0)", x -> x.addNode(10, 0), -4);
        changesNothing("addNode(10, 5)", x -> x.addNode(10, 5), -4);
        DUE.at("promise 3 changes nothing");
        changesNothing("setSpeed(4, 50)", x -> x.setSpeed(4, 50), -1);
        changesNothing("setSpeed(-1, 50)", x -> x.setSpeed(-1, 50), -1);
        changesNothing("setSpeed(0, 101)", x -> x.setSpeed(0, 101), -4);
        changesNothing("setSpeed(0, -1)", x -> x.setSpeed(0, -1), -4);
        DUE.at("promise 4 changes nothing");
        changesNothing("failNode(4)", x -> x.failNode(4), -1);
        changesNothing("failNode(-1)", x -> x.failNode(-1), -1);
        changesNothing("failNode(2): it is down already", x -> x.failNode(2), -6);
        DUE.at("promise 5 changes nothing");
        changesNothing("repairNode(4)", x -> x.repairNode(4), -1);
        changesNothing("repairNode(-1)", x -> x.repairNode(-1), -1);
        changesNothing("repairNode(0): it is up already", x -> x.repairNode(0), 0);
    }

    private static void jobIsRefused() {
        DUE.at("promise 6 changes nothing");
        changesNothing("addTask(0)", x -> x.addTask(0), -4);
        changesNothing("addTask(10001)", x -> x.addTask(10001), -4);
    }

    private static SpeculativeScheduler fullOfNodes() {
        SpeculativeScheduler x = cluster(speeds(10, 20, 30, 40, 50, 60, 70, 80), 100, 500);
        x.tick(3);
        return x;
    }

    private static SpeculativeScheduler fullOfTasks() {
        SpeculativeScheduler x = cluster(speeds(50));
        for (int i = 0; i < 24; i++) x.addTask(50 + i);
        x.tick(3);
        return x;
    }

    private static void fullIsRefused() {
        DUE.at("promise 2, FULL changes nothing");
        SpeculativeScheduler x = fullOfNodes();
        DUE.is("addNode(90, 4)", x.addNode(90, 4), -5);
        staysAs("addNode(90, 4)", x, fullOfNodes());
        DUE.at("promise 6, FULL changes nothing");
        SpeculativeScheduler y = fullOfTasks();
        DUE.is("addTask(7)", y.addTask(7), -5);
        staysAs("addTask(7)", y, fullOfTasks());
    }

    private static void settingsAreRefused() {
        DUE.at("promise 7 changes nothing");
        changesNothing("setPolicy(3)", x -> x.setPolicy(3), -4);
        changesNothing("setPolicy(-1)", x -> x.setPolicy(-1), -4);
        DUE.at("promise 8 changes nothing");
        changesNothing("setLimits(33, 9)", x -> x.setLimits(33, 9), -4);
        changesNothing("setLimits(-1, 9)", x -> x.setLimits(-1, 9), -4);
        changesNothing("setLimits(9, 101)", x -> x.setLimits(9, 101), -4);
        changesNothing("setLimits(9, -1)", x -> x.setLimits(9, -1), -4);
        DUE.at("promise 9 changes nothing");
        changesNothing("setThresholds(201, 9)", x -> x.setThresholds(201, 9), -4);
        changesNothing("setThresholds(0, 9)", x -> x.setThresholds(0, 9), -4);
        changesNothing("setThresholds(9, 201)", x -> x.setThresholds(9, 201), -4);
        changesNothing("setThresholds(9, 0)", x -> x.setThresholds(9, 0), -4);
    }

    private static void ticksAreRefused() {
        DUE.at("promise 10 changes nothing");
        changesNothing("tick(0)", x -> x.tick(0), -4);
        changesNothing("tick(-1)", x -> x.tick(-1), -4);
        changesNothing("tick(501)", x -> x.tick(501), -4);
    }

    private static void noSuchTask() {
        int[] beyond = {-1, 5};
        for (int task : beyond) {
            DUE.at("promises 12 to 14 change nothing, with " + task);
            changesNothing("taskState", x -> x.taskState(task), -2);
            changesNothing("committedAttempt", x -> x.committedAttempt(task), -2);
            changesNothing("finishTime", x -> x.finishTime(task), -2);
        }
    }

    private static void taskNotDone() {
        DUE.at("promise 13: NONE if the task is not DONE");
        changesNothing("committedAttempt(0): it is RUNNING", x -> x.committedAttempt(0), -6);
        changesNothing("committedAttempt(3): it is WAITING", x -> x.committedAttempt(3), -6);
        DUE.at("promise 14: NONE if the task is not DONE");
        changesNothing("finishTime(0): it is RUNNING", x -> x.finishTime(0), -6);
        changesNothing("finishTime(3): it is WAITING", x -> x.finishTime(3), -6);
        DUE.at("promise 15: NONE if a task is not DONE");
        changesNothing("makespan()", x -> x.makespan(), -6);
    }

    private static void noSuchAttempt() {
        int[] beyond = {-1, 6};
        for (int attempt : beyond) {
            DUE.at("promises 17 to 22 change nothing, with " + attempt);
            changesNothing("attemptTask", x -> x.attemptTask(attempt), -3);
            changesNothing("attemptNode", x -> x.attemptNode(attempt), -3);
            changesNothing("attemptState", x -> x.attemptState(attempt), -3);
            changesNothing("isSpeculative", x -> x.isSpeculative(attempt), -3);
            changesNothing("progress", x -> x.progress(attempt), -3);
            changesNothing("remainingTime", x -> x.remainingTime(attempt), -3);
        }
    }

    private static void attemptNotRunning() {
        DUE.at("promise 22: NONE if it is not running");
        changesNothing("remainingTime(2): it is COMMITTED", x -> x.remainingTime(2), -6);
        changesNothing("remainingTime(3): it is LOST", x -> x.remainingTime(3), -6);
        SpeculativeScheduler x = midway();
        x.setSpeed(1, 100);
        x.tick(5);
        DUE.is("attemptState(0): it is KILLED", x.attemptState(0), 3);
        DUE.is("remainingTime(0): it is KILLED", x.remainingTime(0), -6);
    }

    private static void noSuchNode() {
        int[] beyond = {-1, 4};
        for (int node : beyond) {
            DUE.at("promises 23 to 25 change nothing, with " + node);
            changesNothing("nodeScore", x -> x.nodeScore(node), -1);
            changesNothing("isSlowNode", x -> x.isSlowNode(node), -1);
            changesNothing("runningOn", x -> x.runningOn(node), -1);
        }
    }

    private static void simulationChangesNothing() {
        DUE.at("promise 29: Nothing is changed");
        // 500 at 10 from time 0: the node that is down takes no part.
        changesNothing("simulatedMakespan(0)", x -> x.simulatedMakespan(0), 50);
        changesNothing("simulatedMakespan(1)", x -> x.simulatedMakespan(1), 22);
        changesNothing("simulatedMakespan(2)", x -> x.simulatedMakespan(2), 21);
        changesNothing("simulatedMakespan(3)", x -> x.simulatedMakespan(3), -4);
        changesNothing("simulatedMakespan(-1)", x -> x.simulatedMakespan(-1), -4);
    }

    private static SpeculativeScheduler stuck() {
        SpeculativeScheduler x = cluster(speeds(0, 30), 100, 100);
        x.setLimits(0, 3);
        x.tick(2);
        return x;
    }

    private static void simulationWithoutAnEndChangesNothing() {
        DUE.at("promise 29: NONE changes nothing");
        for (int policy = 0; policy < 3; policy++) {
            SpeculativeScheduler x = stuck();
            DUE.is("simulatedMakespan(" + policy + ")", x.simulatedMakespan(policy), -6);
            staysAs("simulatedMakespan(" + policy + ")", x, stuck());
        }
    }
}
