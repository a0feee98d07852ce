/** What the tests share: the count of wrong answers, and clusters to begin with. */
abstract class Cases {
    static final int LEAST = Integer.MIN_VALUE;
    static final int GREATEST = Integer.MAX_VALUE;
    static final Due DUE = new Due();

    /** A call with one number that a table of tests can hold. */
    interface Question {
        int ask(SpeculativeScheduler x, int number);
    }

    /** Nodes of one slot each, and tasks, with the policy that a new object has. */
    static SpeculativeScheduler cluster(int[] speeds, int... works) {
        SpeculativeScheduler x = new SpeculativeScheduler();
        for (int speed : speeds) x.addNode(speed, 1);
        for (int work : works) x.addTask(work);
        return x;
    }

    static SpeculativeScheduler cluster(int policy, int[] speeds, int... works) {
        SpeculativeScheduler x = cluster(speeds, works);
        x.setPolicy(policy);
        return x;
    }

    static int[] speeds(int... speeds) {
        return speeds;
    }
}
