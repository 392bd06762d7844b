/** Counts the checks of all tests and prints those that fail. */
final class Check {
    interface Call {
        Object answer();
    }

    private static int passed = 0;
    private static int failed = 0;
    private static String part = "";

    private Check() {
    }

    static void part(String name) {
        part = name;
    }

    static void due(String what, Object got, Object want) {
        if (got.equals(want)) {
            passed++;
        } else {
            fail(what + " answered " + got + ", due is " + want);
        }
    }

    static void fail(String what) {
        failed++;
        System.out.println(part + ": " + what);
    }

    static void throwsIndex(String what, Call call) {
        throwsExactly(what, call, IndexOutOfBoundsException.class);
    }

    static void throwsArgument(String what, Call call) {
        throwsExactly(what, call, IllegalArgumentException.class);
    }

    static void throwsState(String what, Call call) {
        throwsExactly(what, call, IllegalStateException.class);
    }

    /** The exact class, as the machine's own exceptions are subclasses of what the document names. */
    private static void throwsExactly(String what, Call call, Class<?> want) {
        Object got;
        try {
            got = call.answer();
        } catch (RuntimeException e) {
            got = e.getClass();
        }
        due(what, got, want);
    }

    /** Prints the sum and ends the program. */
    static void finish() {
        System.out.println("own checks: " + passed + " passed, " + failed + " failed");
        System.exit(failed == 0 ? 0 : 1);
    }
}
