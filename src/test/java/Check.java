/** Counts the answers of a test that are not as due. */
final class Check {
    private static int made = 0;
    private static int wrong = 0;

    private Check() {
    }

    static void due(String what, long got, long want) {
        made++;
        if (got != want) {
            miss(what + " answered " + got + ", due is " + want);
        }
    }

    static void due(String what, boolean got, boolean want) {
        due(what, got ? 1 : 0, want ? 1 : 0);
    }

    static void dueText(String what, String got, String want) {
        made++;
        if (!got.equals(want)) {
            miss(what + " answered " + got + ", due is " + want);
        }
    }

    static void dueExactly(String what, double got, double want) {
        made++;
        if (!(got == want)) {
            miss(what + " answered " + got + ", due is " + want);
        }
    }

    static void refusesIndex(String what, Slugwire x, Runnable call) {
        refuses(what, IndexOutOfBoundsException.class, x, call);
    }

    static void refusesArgument(String what, Slugwire x, Runnable call) {
        refuses(what, IllegalArgumentException.class, x, call);
    }

    static void refusesState(String what, Slugwire x, Runnable call) {
        refuses(what, IllegalStateException.class, x, call);
    }

    /** The call throws just that class, none below it, and leaves the object as it was. */
    private static void refuses(String what, Class<? extends RuntimeException> want, Slugwire x, Runnable call) {
        made++;
        long before = x.digest();
        Class<?> got = null;
        try {
            call.run();
        } catch (RuntimeException e) {
            got = e.getClass();
        }
        if (got != want) {
            miss(what + " threw " + (got == null ? "nothing" : got.getName()) + ", due is " + want.getName());
        }
        if (x.digest() != before) {
            miss(what + " was refused, and changed something");
        }
    }

    static void miss(String line) {
        wrong++;
        System.out.println(line);
    }

    /** To be called last: tells how it went, and ends with exit code 1 if an answer was wrong. */
    static void end() {
        System.out.println(made + " answers tested, " + wrong + " wrong");
        if (wrong != 0 || made == 0) {
            System.exit(1);
        }
    }
}
