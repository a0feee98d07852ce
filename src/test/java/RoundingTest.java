/** 'Every division in this document rounds down.': each division where that makes a difference. */
public final class RoundingTest extends Cases {
    public static void main(String[] args) {
        progress();
        rate();
        remainingTime();
        score();
        meanRate();
        meanScore();
        meanProgress();
        DUE.end();
    }

    private static void progress() {
        DUE.at("progress");
        SpeculativeScheduler x = cluster(speeds(7, 2, 100), 30, 3, 10000);
        x.tick(1);
        DUE.is("progress(0): 7000 / 30", x.progress(0), 233);
        DUE.is("progress(1): 2000 / 3", x.progress(1), 666);
        DUE.is("progress(2): 100000 / 10000", x.progress(2), 10);
        x.setSpeed(2, 9);
        x.tick(1);
        DUE.is("progress(2): 109000 / 10000", x.progress(2), 10);
    }

    private static void rate() {
        DUE.at("rate");
        SpeculativeScheduler x = cluster(speeds(29, 40), 10000, 10000);
        x.tick(10);
        DUE.is("progress(0)", x.progress(0), 29);
        DUE.is("progress(1)", x.progress(1), 40);
        DUE.is("straggler(): 29 / 10 is 2, less than 3 * 75 / 100", x.straggler(), 0);
        x.tick(30);
        DUE.is("straggler(): 116 / 40 is 2 still", x.straggler(), 0);
        x.setSpeed(0, 70);
        x.tick(1);
        DUE.is("straggler(): 123 / 41 is 3", x.straggler(), -6);
    }

    private static void remainingTime() {
        DUE.at("remaining time");
        SpeculativeScheduler x = cluster(speeds(7, 99), 100, 100);
        x.tick(1);
        DUE.is("remainingTime(0): 930 / 70", x.remainingTime(0), 13);
        DUE.is("remainingTime(1): 10 / 990", x.remainingTime(1), 0);
        x.tick(2);
        DUE.is("remainingTime(0): 790 * 3 / 210", x.remainingTime(0), 11);
    }

    private static void score() {
        DUE.at("score");
        SpeculativeScheduler x = cluster(speeds(1), 1000);
        x.tick(1);
        x.setSpeed(0, 0);
        x.tick(1);
        DUE.is("nodeScore(0): 1 / 2", x.nodeScore(0), 0);
        x.setSpeed(0, 4);
        x.tick(1);
        DUE.is("nodeScore(0): 5 / 3", x.nodeScore(0), 1);
        x.tick(1);
        DUE.is("nodeScore(0): 9 / 4", x.nodeScore(0), 2);
    }

    private static void meanRate() {
        DUE.at("mean rate");
        SpeculativeScheduler x = cluster(speeds(20, 30), 10000, 10000);
        x.setThresholds(100, 50);
        x.tick(5);
        DUE.is("straggler(): 200 is not less than 2 * 100", x.straggler(), -6);
        x.setThresholds(101, 50);
        DUE.is("straggler(): 200 is less than 2 * 101", x.straggler(), 0);
    }

    private static void meanScore() {
        DUE.at("mean score");
        SpeculativeScheduler x = cluster(speeds(50, 51), 10000, 10000);
        x.setThresholds(75, 100);
        x.tick(1);
        DUE.is("isSlowNode(0): 5000 is not less than 50 * 100", x.isSlowNode(0), 0);
        x.setThresholds(75, 101);
        DUE.is("isSlowNode(0): 5000 is less than 50 * 101", x.isSlowNode(0), 1);
    }

    private static void meanProgress() {
        DUE.at("mean progress");
        SpeculativeScheduler x = cluster(1, speeds(0, 100), 1000, 1000);
        x.tick(4);
        x.setSpeed(1, 1);
        x.tick(1);
        DUE.is("straggler(): 200 is not less than 401 / 2", x.straggler(), -6);
        x.tick(1);
        DUE.is("straggler(): 200 is less than 402 / 2", x.straggler(), 0);
    }
}
