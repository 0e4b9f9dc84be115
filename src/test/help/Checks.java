/** Counts what a test compares, and prints each answer that is not the one that is due. */
final class Checks {
    private static int checks = 0;
    private static int wrong = 0;
    private static String about = "";

    private Checks() {
    }

    /** What the following checks are about: it stands ahead of each wrong answer. */
    static void about(String what) {
        about = what + ": ";
    }

    static void due(String call, long got, long want) {
        checks++;
        if (got != want) {
            fail(call + " answered " + got + ", due is " + want);
        }
    }

    static void dueText(String call, String got, String want) {
        checks++;
        if (!got.equals(want)) {
            fail(call + " told '" + got + "', due is '" + want + "'");
        }
    }

    static void fail(String what) {
        wrong++;
        System.out.println(about + what);
    }

    static int made() {
        return checks;
    }

    static void end() {
        System.out.println(checks + " checks, " + wrong + " wrong");
        if (wrong != 0) {
            System.exit(1);
        }
    }
}
