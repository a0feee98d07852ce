/** The four examples of the document, call by call. */
public final class ExamplesTest {
    private static final Due DUE = new Due();

    public static void main(String[] args) {
        straggler();
        failingNode();
        errors();
        gain();
        DUE.end();
    }

    private static void straggler() {
        DUE.at("example 1");
        SpeculativeScheduler x = new SpeculativeScheduler();
        DUE.is("addNode(50, 1)", x.addNode(50, 1), 0);
        DUE.is("addNode(50, 1)", x.addNode(50, 1), 1);
        DUE.is("addNode(5, 1)", x.addNode(5, 1), 2);
        DUE.is("addTask(300)", x.addTask(300), 0);
        DUE.is("addTask(300)", x.addTask(300), 1);
        DUE.is("addTask(300)", x.addTask(300), 2);
        DUE.is("tick(5)", x.tick(5), 0);
        DUE.is("progress(0)", x.progress(0), 833);
        DUE.is("progress(2)", x.progress(2), 83);
        DUE.is("straggler()", x.straggler(), 2);
        DUE.is("tick(2)", x.tick(2), 2);
        DUE.is("attemptCount()", x.attemptCount(), 3);
        DUE.is("attemptTask(3)", x.attemptTask(3), -3);
        DUE.is("isSpeculative(3)", x.isSpeculative(3), -3);
        DUE.is("tick(10)", x.tick(10), 0);
        DUE.is("committedAttempt(2)", x.committedAttempt(2), -6);
    }

    private static void failingNode() {
        DUE.at("example 2");
        SpeculativeScheduler x = new SpeculativeScheduler();
        DUE.is("addNode(10, 2)", x.addNode(10, 2), 0);
        DUE.is("addTask(20)", x.addTask(20), 0);
        DUE.is("addTask(20)", x.addTask(20), 1);
        DUE.is("tick(1)", x.tick(1), 0);
        DUE.is("failNode(0)", x.failNode(0), 2);
        DUE.is("attemptState(0)", x.attemptState(0), 4);
        DUE.is("taskState(0)", x.taskState(0), 0);
        DUE.is("repairNode(0)", x.repairNode(0), 1);
        DUE.is("tick(2)", x.tick(2), 2);
        DUE.is("makespan()", x.makespan(), 3);
        DUE.is("attemptCount()", x.attemptCount(), 4);
    }

    private static void errors() {
        DUE.at("example 3");
        SpeculativeScheduler x = new SpeculativeScheduler();
        DUE.is("addNode(200, 1)", x.addNode(200, 1), -4);
        DUE.is("setSpeed(0, 200)", x.setSpeed(0, 200), -1);
        DUE.is("addTask(0)", x.addTask(0), -4);
        DUE.is("tick(0)", x.tick(0), -4);
        DUE.is("remainingTime(0)", x.remainingTime(0), -3);
        DUE.is("makespan()", x.makespan(), -6);
    }

    private static void gain() {
        DUE.at("example 4");
        SpeculativeScheduler x = new SpeculativeScheduler();
        DUE.is("addNode(40, 1)", x.addNode(40, 1), 0);
        DUE.is("addNode(4, 1)", x.addNode(4, 1), 1);
        DUE.is("addNode(40, 1)", x.addNode(40, 1), 2);
        DUE.is("addTask(200)", x.addTask(200), 0);
        DUE.is("addTask(200)", x.addTask(200), 1);
        DUE.is("simulatedMakespan(0)", x.simulatedMakespan(0), 50);
        DUE.is("simulatedMakespan(1)", x.simulatedMakespan(1), 8);
        DUE.is("simulatedMakespan(2)", x.simulatedMakespan(2), 8);
        DUE.is("attemptCount()", x.attemptCount(), 0);
    }
}
