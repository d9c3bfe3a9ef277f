/** Counts tests: each prints "ok NAME" or "FAILED NAME: why", and main ends with 1 if one failed. */
final class Checks {
    private static int failures = 0;
    private static String current = "";
    private static boolean clean = true;

    private Checks() {
    }

    interface Body {
        void run();
    }

    static void test(String name, Body body) {
        current = name;
        clean = true;
        try {
            body.run();
        } catch (RuntimeException | Error e) {
            fail("threw " + e);
        }
        if (clean) {
            System.out.println("ok " + name);
        }
    }

    static void due(String call, long got, long want) {
        if (got != want) {
            fail(call + " answered " + got + ", due is " + want);
        }
    }

    static void holds(String what, boolean is) {
        if (!is) {
            fail(what);
        }
    }

    static void fail(String why) {
        clean = false;
        failures++;
        if (failures <= 50) {
            System.out.println("FAILED " + current + ": " + why);
        }
    }

    static void end() {
        if (failures != 0) {
            System.exit(1);
        }
    }
}
