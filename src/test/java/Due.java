/** Counts the answers that are not the ones due, and tells them. */
final class Due {
    private static final int TOLD_MOST = 50;
    private long asked;
    private int wrong;

    void due(String call, long got, long want) {
        asked++;
        if (got != want) {
            wrong++;
            if (wrong <= TOLD_MOST) {
                System.out.println(call + " answered " + got + ", due is " + want);
            }
        }
    }

    void due(String call, boolean got, boolean want) {
        due(call, got ? 1 : 0, want ? 1 : 0);
    }

    boolean allAsDue() {
        return wrong == 0;
    }

    /** Ends the test, with exit code 1 if an answer was not as due or if nothing was asked at all. */
    void finish() {
        System.out.println(asked + " answers, " + wrong + " not as due");
        if (wrong != 0 || asked == 0) {
            System.exit(1);
        }
    }
}
