/** Counts and prints the calls whose answers are not the ones that are due. */
final class Check {
    private static int wrong = 0;
    private static int made = 0;
    private static int madeAhead = 0;
    private static String where = "";

    private Check() {
    }

    static void at(String place) {
        where = place;
    }

    /** Begins a test of its own; the one ahead of it must have looked at something beside its own words. */
    static void begin(String test) {
        that("a test without answers", where.isEmpty() || made > madeAhead + 1);
        where = test;
        madeAhead = made;
    }

    static void due(String call, long got, long want) {
        made++;
        if (got != want) {
            wrong++;
            if (wrong <= 50) {
                System.out.println(where + ": " + call + " answered " + got + ", due is " + want);
            }
        }
    }

    static void that(String what, boolean holds) {
        due(what, holds ? 1 : 0, 1);
    }

    static boolean allRight() {
        return wrong == 0;
    }

    static void end(String test) {
        System.out.println(test + ": " + made + " answers looked at, " + wrong + " not as due");
        if (wrong != 0) {
            System.exit(1);
        }
    }
}
