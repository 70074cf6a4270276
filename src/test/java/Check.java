/** Counts and prints answers that are not the ones due. */
final class Check {
    private static final int MOST_PRINTED = 40;
    private static int wrong = 0;
    private static int checked = 0;

    private Check() {
    }

    static void due(String call, long got, long want) {
        checked++;
        if (got != want) {
            wrong++;
            if (wrong <= MOST_PRINTED) {
                System.out.println(call + " answered " + got + ", due is " + want);
            }
        }
    }

    static void isTrue(String what, boolean so) {
        due(what, so ? 1 : 0, 1);
    }

    /** Ends the test, with exit code 1 if an answer was wrong. */
    static void finish() {
        System.out.println(checked + " checks, " + wrong + " wrong");
        if (wrong != 0 || checked == 0) {
            System.exit(1);
        }
    }
}
