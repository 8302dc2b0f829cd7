/** Counts the answers that are as due, and tells those that are not. */
final class Checks {
    private static int passed = 0;
    private static int failed = 0;

    private Checks() {
    }

    static void due(String call, long got, long want) {
        if (got == want) {
            passed++;
        } else {
            failed++;
            System.out.println(call + " answered " + got + ", due is " + want);
        }
    }

    static void due(String call, boolean got, boolean want) {
        due(call, got ? 1 : 0, want ? 1 : 0);
    }

    static void sameText(String call, String got, String want) {
        if (!got.equals(want)) {
            System.out.println("  got:  " + got);
            System.out.println("  want: " + want);
        }
        due(call + " (1: as due)", got.equals(want), true);
    }

    static void throwsIndex(String call, Runnable run) {
        throwing(call, IndexOutOfBoundsException.class, run);
    }

    static void throwsArgument(String call, Runnable run) {
        throwing(call, IllegalArgumentException.class, run);
    }

    static void throwsState(String call, Runnable run) {
        throwing(call, IllegalStateException.class, run);
    }

    private static void throwing(String call, Class<?> want, Runnable run) {
        Class<?> got = null;
        try {
            run.run();
        } catch (RuntimeException e) {
            got = e.getClass();
        }
        if (got == want) {
            passed++;
        } else {
            failed++;
            System.out.println(call + " threw " + got + ", due is " + want);
        }
    }

    /** To be called last: a test with a wrong answer, or with none at all, ends with exit code 1. */
    static void finish() {
        System.out.println(passed + " answers as due, " + failed + " not");
        if (failed != 0 || passed == 0) {
            System.exit(1);
        }
    }
}
