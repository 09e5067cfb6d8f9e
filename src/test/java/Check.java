/** Compares answers with those that are due, and counts the wrong ones. */
final class Check {
    private static final int MOST_PRINTED = 40;

    private int checked;
    private int wrong;

    void due(String call, long got, long want) {
        checked++;
        if (got == want) {
            return;
        }
        wrong++;
        if (wrong <= MOST_PRINTED) {
            System.out.println(call + " answered " + got + ", due is " + want);
        }
    }

    boolean isWrong() {
        return wrong > 0;
    }

    /** Ends the test: with the exit code 1 if an answer was wrong. */
    void end(String test) {
        System.out.println(test + ": " + checked + " answers, " + wrong + " not as due");
        if (wrong > 0 || checked == 0) {
            System.exit(1);
        }
    }
}
