/** What an object tells of itself, as a text: objects that are alike have the same texts. */
final class Answers {
    private final SpeculativeScheduler x;
    private final StringBuilder text = new StringBuilder();

    private Answers(SpeculativeScheduler x) {
        this.x = x;
    }

    /** The answers to all questions that change nothing. */
    static String now(SpeculativeScheduler x) {
        Answers answers = new Answers(x);
        answers.askAll();
        return answers.text.toString();
    }

    /** Uses the object up: what no question tells shows in what it does next. */
    static String later(SpeculativeScheduler x) {
        Answers answers = new Answers(x);
        answers.put("tick(3)", x.tick(3));
        answers.askAll();
        answers.askSimulations();
        answers.askNodesByChange();
        answers.askSlots();
        return answers.text.toString();
    }

    private void put(String call, int answer) {
        text.append(call).append(" = ").append(answer).append("; ");
    }

    private void askAll() {
        put("time()", x.time());
        put("makespan()", x.makespan());
        put("attemptCount()", x.attemptCount());
        put("straggler()", x.straggler());
        put("runningSpeculative()", x.runningSpeculative());
        put("wastedWork()", x.wastedWork());
        for (int node = 0; node < 8 && x.runningOn(node) >= 0; node++) askNode(node);
        for (int task = 0; task < 24 && x.taskState(task) >= 0; task++) askTask(task);
        for (int attempt = 0; attempt < x.attemptCount(); attempt++) askAttempt(attempt);
    }

    /** Not among the questions of now: a simulation that changes something would hide it there. */
    private void askSimulations() {
        for (int policy = 0; policy < 3; policy++) {
            put("\nsimulatedMakespan(" + policy + ")", x.simulatedMakespan(policy));
        }
    }

    private void askNode(int node) {
        put("\nnodeScore(" + node + ")", x.nodeScore(node));
        put("isSlowNode", x.isSlowNode(node));
        put("runningOn", x.runningOn(node));
    }

    private void askTask(int task) {
        put("\ntaskState(" + task + ")", x.taskState(task));
        put("committedAttempt", x.committedAttempt(task));
        put("finishTime", x.finishTime(task));
    }

    private void askAttempt(int attempt) {
        put("\nattemptTask(" + attempt + ")", x.attemptTask(attempt));
        put("attemptNode", x.attemptNode(attempt));
        put("attemptState", x.attemptState(attempt));
        put("isSpeculative", x.isSpeculative(attempt));
        put("progress", x.progress(attempt));
        put("remainingTime", x.remainingTime(attempt));
    }

    private void askNodesByChange() {
        for (int node = 0; node < 8 && x.runningOn(node) >= 0; node++) {
            put("\nsetSpeed(" + node + ", 0)", x.setSpeed(node, 0));
            put("repairNode(" + node + ")", x.repairNode(node));
        }
    }

    /** With speed 0 every slot that a task is left for stays taken. */
    private void askSlots() {
        for (int i = 0; i < 24; i++) put("addTask(1)", x.addTask(1));
        x.tick(1);
        for (int node = 0; node < 8 && x.runningOn(node) >= 0; node++) {
            put("runningOn(" + node + ")", x.runningOn(node));
        }
    }
}
