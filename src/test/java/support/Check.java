/** Counts answers that are not as due, prints them, and ends a test with exit code 1 if there were any. */
final class Check {
    private static final int MOST_PRINTED = 40;
    private static int checks = 0;
    private static int wrong = 0;

    private Check() {
    }

    static void same(String what, long got, long want) {
        checks++;
        if (got != want) {
            tell(what + " answered " + got + ", due is " + want);
        }
    }

    static void same(String what, boolean got, boolean want) {
        same(what, got ? 1 : 0, want ? 1 : 0);
    }

    static void none(String what, long got) {
        same(what, got, -100000);
    }

    static void holds(String what, boolean holds) {
        checks++;
        if (!holds) {
            tell(what + " does not hold");
        }
    }

    private static void tell(String line) {
        wrong++;
        if (wrong <= MOST_PRINTED) {
            System.out.println(line);
        }
    }

    static void end() {
        System.out.println(checks + " checks, " + wrong + " wrong");
        if (wrong != 0 || checks == 0) {
            System.exit(1);
        }
    }
}
