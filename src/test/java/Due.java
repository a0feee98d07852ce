/** Counts and prints the answers that are not the ones that are due. */
final class Due {
    private int wrong = 0;
    private String place = "";

    void at(String name) {
        place = name;
    }

    void is(String call, long got, long want) {
        if (got != want) {
            wrong++;
            System.out.println(place + ": " + call + " answered " + got + ", due is " + want);
        }
    }

    void same(String call, String got, String want) {
        if (!got.equals(want)) {
            wrong++;
            System.out.println(place + ": " + call + " answered\n" + got + "\n, due is\n" + want);
        }
    }

    boolean isClean() {
        return wrong == 0;
    }

    void end() {
        System.out.println(wrong == 0 ? "all answers are as due" : wrong + " answers are not as due");
        if (wrong != 0) {
            System.exit(1);
        }
    }
}
