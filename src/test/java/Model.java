import java.util.ArrayList;
import java.util.List;

/**
 * The document read as plainly as possible: nothing is kept but nodes, tasks and attempts, and
 * every sum, mean and state is counted anew from the attempts.
 */
final class Model {
    static final class Node {
        int speed;
        int slots;
        boolean up = true;
    }

    static final class Task {
        int work;
        int finish = -6;
    }

    static final class Attempt {
        int task;
        int node;
        int state = 1;
        boolean speculative;
        long age;
        long done;
    }

    final List<Node> nodes = new ArrayList<>();
    final List<Task> tasks = new ArrayList<>();
    final List<Attempt> attempts = new ArrayList<>();
    int policy = 2;
    int cap = 2;
    int minimumAge = 3;
    int taskThreshold = 75;
    int nodeThreshold = 50;
    int time = 0;

    private boolean noNode(int node) {
        return node < 0 || node >= nodes.size();
    }

    private boolean noTask(int task) {
        return task < 0 || task >= tasks.size();
    }

    private boolean noAttempt(int attempt) {
        return attempt < 0 || attempt >= attempts.size();
    }

    private static boolean outside(int value, int least, int greatest) {
        return value < least || value > greatest;
    }

    int addNode(int speed, int slots) {
        if (outside(speed, 0, 100) || outside(slots, 1, 4)) return -4;
        if (nodes.size() == 8) return -5;
        Node node = new Node();
        node.speed = speed;
        node.slots = slots;
        nodes.add(node);
        return nodes.size() - 1;
    }

    int setSpeed(int node, int speed) {
        if (noNode(node)) return -1;
        if (outside(speed, 0, 100)) return -4;
        int previous = nodes.get(node).speed;
        nodes.get(node).speed = speed;
        return previous;
    }

    int failNode(int node) {
        if (noNode(node)) return -1;
        if (!nodes.get(node).up) return -6;
        nodes.get(node).up = false;
        int lost = 0;
        for (Attempt a : running()) {
            if (a.node == node) {
                a.state = 4;
                lost++;
            }
        }
        return lost;
    }

    int repairNode(int node) {
        if (noNode(node)) return -1;
        if (nodes.get(node).up) return 0;
        nodes.get(node).up = true;
        return 1;
    }

    int addTask(int work) {
        if (outside(work, 1, 10000)) return -4;
        if (tasks.size() == 24) return -5;
        Task task = new Task();
        task.work = work;
        tasks.add(task);
        return tasks.size() - 1;
    }

    int setPolicy(int value) {
        if (outside(value, 0, 2)) return -4;
        int previous = policy;
        policy = value;
        return previous;
    }

    int setLimits(int newCap, int newAge) {
        if (outside(newCap, 0, 32) || outside(newAge, 0, 100)) return -4;
        int changed = cap == newCap && minimumAge == newAge ? 0 : 1;
        cap = newCap;
        minimumAge = newAge;
        return changed;
    }

    int setThresholds(int task, int node) {
        if (outside(task, 1, 200) || outside(node, 1, 200)) return -4;
        int changed = taskThreshold == task && nodeThreshold == node ? 0 : 1;
        taskThreshold = task;
        nodeThreshold = node;
        return changed;
    }

    int tick(int ticks) {
        if (outside(ticks, 1, 500)) return -4;
        int before = doneTasks();
        for (int i = 0; i < ticks; i++) oneTick();
        return doneTasks() - before;
    }

    private int doneTasks() {
        int done = 0;
        for (int t = 0; t < tasks.size(); t++) if (taskState(t) == 2) done++;
        return done;
    }

    private void oneTick() {
        for (int n = 0; n < nodes.size(); n++) {
            while (nodes.get(n).up && runningOn(n) < nodes.get(n).slots && startOne(n)) {
                // each turn has started an attempt
            }
        }
        for (Attempt a : running()) {
            a.age++;
            a.done += nodes.get(a.node).speed;
        }
        for (Attempt a : running()) {
            if (a.state == 1 && a.done >= tasks.get(a.task).work) {
                a.state = 2;
                for (Attempt b : running()) if (b.task == a.task) b.state = 3;
                tasks.get(a.task).finish = time + 1;
            }
        }
        time++;
    }

    private boolean startOne(int node) {
        if (attempts.size() == 200) return false;
        for (int t = 0; t < tasks.size(); t++) {
            if (taskState(t) == 0) return start(t, node);
        }
        int s = straggler();
        if (s == -6 || attempts.get(s).node == node) return false;
        if (runningSpeculative() >= cap) return false;
        if (policy == 2 && isSlowNode(node) == 1) return false;
        return start(attempts.get(s).task, node);
    }

    private boolean start(int task, int node) {
        Attempt a = new Attempt();
        a.task = task;
        a.node = node;
        a.speculative = runningOf(task) > 0;
        attempts.add(a);
        return true;
    }

    private List<Attempt> running() {
        List<Attempt> list = new ArrayList<>();
        for (Attempt a : attempts) if (a.state == 1) list.add(a);
        return list;
    }

    private int runningOf(int task) {
        int number = 0;
        for (Attempt a : running()) if (a.task == task) number++;
        return number;
    }

    int taskState(int task) {
        if (noTask(task)) return -2;
        if (committedAttempt(task) != -6) return 2;
        return runningOf(task) > 0 ? 1 : 0;
    }

    int committedAttempt(int task) {
        if (noTask(task)) return -2;
        for (int i = 0; i < attempts.size(); i++) {
            if (attempts.get(i).task == task && attempts.get(i).state == 2) return i;
        }
        return -6;
    }

    int finishTime(int task) {
        return noTask(task) ? -2 : tasks.get(task).finish;
    }

    int makespan() {
        int greatest = -6;
        for (int t = 0; t < tasks.size(); t++) {
            if (taskState(t) != 2) return -6;
            greatest = Math.max(greatest, finishTime(t));
        }
        return greatest;
    }

    int attemptTask(int a) {
        return noAttempt(a) ? -3 : attempts.get(a).task;
    }

    int attemptNode(int a) {
        return noAttempt(a) ? -3 : attempts.get(a).node;
    }

    int attemptState(int a) {
        return noAttempt(a) ? -3 : attempts.get(a).state;
    }

    int isSpeculative(int a) {
        return noAttempt(a) ? -3 : attempts.get(a).speculative ? 1 : 0;
    }

    private long progressOf(Attempt a) {
        return Math.min(1000, a.done * 1000 / tasks.get(a.task).work);
    }

    private long rateOf(Attempt a) {
        return a.age == 0 ? 0 : progressOf(a) / a.age;
    }

    private long remainingOf(Attempt a) {
        long p = progressOf(a);
        return p == 0 ? 1000000 : (1000 - p) * a.age / p;
    }

    int progress(int a) {
        return noAttempt(a) ? -3 : (int) progressOf(attempts.get(a));
    }

    int remainingTime(int a) {
        if (noAttempt(a)) return -3;
        return attempts.get(a).state == 1 ? (int) remainingOf(attempts.get(a)) : -6;
    }

    private long ages(int node) {
        long sum = 0;
        for (Attempt a : attempts) if (a.node == node) sum += a.age;
        return sum;
    }

    int nodeScore(int node) {
        if (noNode(node)) return -1;
        long done = 0;
        for (Attempt a : attempts) if (a.node == node) done += a.done;
        return ages(node) == 0 ? 0 : (int) (done / ages(node));
    }

    int isSlowNode(int node) {
        if (noNode(node)) return -1;
        long sum = 0;
        long number = 0;
        for (int n = 0; n < nodes.size(); n++) {
            if (nodes.get(n).up && ages(n) > 0) {
                sum += nodeScore(n);
                number++;
            }
        }
        long mean = number == 0 ? 0 : sum / number;
        return ages(node) > 0 && nodeScore(node) * 100L < mean * nodeThreshold ? 1 : 0;
    }

    int runningOn(int node) {
        if (noNode(node)) return -1;
        int number = 0;
        for (Attempt a : running()) if (a.node == node) number++;
        return number;
    }

    int straggler() {
        List<Attempt> running = running();
        if (policy == 0 || running.isEmpty()) return -6;
        long progresses = 0;
        long rates = 0;
        for (Attempt a : running) {
            progresses += progressOf(a);
            rates += rateOf(a);
        }
        long meanProgress = progresses / running.size();
        long meanRate = rates / running.size();
        Attempt best = null;
        for (Attempt a : running) {
            if (runningOf(a.task) != 1 || a.age < minimumAge) continue;
            if (policy == 1 && (best == null || progressOf(a) < progressOf(best))) best = a;
            boolean slow = rateOf(a) * 100 < meanRate * taskThreshold;
            if (policy == 2 && slow && (best == null || remainingOf(a) > remainingOf(best))) best = a;
        }
        if (best == null || policy == 1 && progressOf(best) + 200 >= meanProgress) return -6;
        return attempts.indexOf(best);
    }

    int runningSpeculative() {
        int number = 0;
        for (Attempt a : running()) if (a.speculative) number++;
        return number;
    }

    int wastedWork() {
        int sum = 0;
        for (Attempt a : attempts) if (a.state == 3 || a.state == 4) sum += (int) a.done;
        return sum;
    }

    int simulatedMakespan(int otherPolicy) {
        if (outside(otherPolicy, 0, 2)) return -4;
        Model other = new Model();
        for (Node node : nodes) {
            int number = other.addNode(node.speed, node.slots);
            other.nodes.get(number).up = node.up;
        }
        for (Task task : tasks) other.addTask(task.work);
        other.policy = otherPolicy;
        other.cap = cap;
        other.minimumAge = minimumAge;
        other.taskThreshold = taskThreshold;
        other.nodeThreshold = nodeThreshold;
        for (int i = 0; i < 2000 && other.makespan() == -6; i++) other.oneTick();
        return other.makespan();
    }
}
