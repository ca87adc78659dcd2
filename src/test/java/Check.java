/** Counts the answers that are not the ones that are due, and tells each. */
final class Check {
    private final String title;
    private int asked;
    private int wrong;

    Check(String title) {
        this.title = title;
    }

    void due(String what, long got, long want) {
        asked++;
        if (got != want) {
            wrong++;
            if (wrong <= 40) {
                System.out.println(title + ": " + what + " answered " + got + ", due is " + want);
            }
        }
    }

    void yes(String what, boolean got) {
        due(what, got ? 1 : 0, 1);
    }

    void no(String what, boolean got) {
        due(what, got ? 1 : 0, 0);
    }

    /** The i-th line of the log, whole. */
    void logged(EarlyToken x, int i, int tick, int what, int station, int number) {
        int[] want = {tick, what, station, number, -1};
        for (int k = 0; k < want.length; k++) {
            due("log(" + i + ", " + k + ") at " + x.look(7), x.log(i, k), want[k]);
        }
    }

    /** The last call of a test's main method. */
    void end() {
        System.out.println(title + ": " + asked + " answers, " + wrong + " of them wrong");
        if (wrong > 0 || asked == 0) {
            System.exit(1);
        }
    }
}
