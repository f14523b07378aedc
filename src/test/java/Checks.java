/** Counts what is as due and what is not; prints the latter. */
final class Checks {
    private static int passed = 0;
    private static int failed = 0;

    interface Call {
        Object answer();
    }

    private Checks() {
    }

    static void due(String what, Object want, Object got) {
        if (want.equals(got)) {
            passed++;
        } else {
            failed++;
            System.out.println(what + " answered " + got + ", due is " + want);
        }
    }

    /** The answer of a call, or the name of what it throws. */
    static Object outcome(Call call) {
        try {
            return call.answer();
        } catch (RuntimeException e) {
            return e.getClass().getName();
        }
    }

    static int failures() {
        return failed;
    }

    static void end() {
        System.out.println(passed + " passed, " + failed + " failed");
        if (failed != 0 || passed == 0) {
            System.exit(1);
        }
    }
}
