/** Counts what is checked, and reports each fault under the place of the document that it breaks. */
final class Check {
    private static final int MOST_REPORTS = 100;
    private static int made = 0;
    private static int faults = 0;
    private static String place = "";

    private Check() {
    }

    static void under(String newPlace) {
        place = newPlace;
    }

    static int made() {
        return made;
    }

    static void same(String what, long got, long want) {
        made++;
        if (got != want) {
            fault(what + " answered " + got + ", due is " + want);
        }
    }

    static void holds(String what, boolean condition) {
        made++;
        if (!condition) {
            fault(what + " does not hold");
        }
    }

    static void fault(String what) {
        faults++;
        if (faults <= MOST_REPORTS) {
            System.out.println(place + ": " + what);
        }
    }

    /** Ends the test: with exit code 1 if there was a fault. */
    static void end() {
        System.out.println(made + " checks, " + faults + " faults");
        if (faults != 0 || made == 0) {
            System.exit(1);
        }
    }
}
