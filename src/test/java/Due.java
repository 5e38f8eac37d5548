/** Counts answers, prints those that are not as due, and ends with exit code 1 if there was one. */
final class Due {
    private final String test;
    private long asked;
    private long wrong;

    Due(String test) {
        this.test = test;
    }

    void is(String call, long got, long want) {
        asked++;
        if (got != want) {
            complain(call + " answered " + got + ", due is " + want);
        }
    }

    void is(String call, boolean got, boolean want) {
        is(call, got ? 1 : 0, want ? 1 : 0);
    }

    void is(String call, String got, String want) {
        asked++;
        if (!got.equals(want)) {
            complain(call + " answered " + got + ", due is " + want);
        }
    }

    private void complain(String line) {
        wrong++;
        // A broken hash makes all wrong; the first lines are enough then.
        if (wrong <= 50) {
            System.out.println(test + ": " + line);
        }
    }

    void finish() {
        System.out.println(test + ": " + asked + " answers, " + wrong + " wrong");
        if (wrong != 0 || asked == 0) {
            System.exit(1);
        }
    }
}
