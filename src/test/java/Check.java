/** Counts and prints the answers that are not the due ones, as the shared tests do. */
final class Check {
    private static final int MOST_PRINTED = 40;
    private final String test;
    private int wrong = 0;
    private int all = 0;

    Check(String test) {
        this.test = test;
    }

    void due(String call, long got, long want) {
        all++;
        if (got != want) {
            report(call + " answered " + got + ", due is " + want);
        }
    }

    void holds(String what, boolean truth) {
        all++;
        if (!truth) {
            report("does not hold: " + what);
        }
    }

    private void report(String line) {
        wrong++;
        if (wrong <= MOST_PRINTED) {
            System.out.println(test + ": " + line);
        }
    }

    void end() {
        System.out.println(test + ": " + all + " checks, " + wrong + " wrong");
        if (wrong != 0 || all == 0) {
            System.exit(1);
        }
    }
}
