import java.util.Set;
import java.util.TreeSet;
import java.util.regex.Matcher;
import java.util.regex.Pattern;

/** Counts the checks of all tests and prints those that fail. */
final class Check {
    interface Call {
        Object answer();
    }

    private static int passed = 0;
    private static int failed = 0;
    private static String part = "";
    private static final Set<String> tested = new TreeSet<>();
    private static final Pattern TOLD = Pattern.compile("(promise|section)s? (\\d+)(?: and (\\d+))?");

    private Check() {
    }

    /** The name tells the promises or sections of the document that the next checks are for. */
    static void part(String name) {
        part = name;
        Matcher told = TOLD.matcher(name);
        while (told.find()) {
            tested.add(told.group(1) + " " + told.group(2));
            tested.add(told.group(1) + " " + told.group(3));
        }
    }

    static void dueForAll(String kind, int count) {
        for (int number = 1; number <= count; number++) {
            due("there is a test of " + kind + " " + number, tested.contains(kind + " " + number), true);
        }
    }

    static void due(String what, Object got, Object want) {
        if (got.equals(want)) {
            passed++;
        } else {
            fail(what + " answered " + got + ", due is " + want);
        }
    }

    static void fail(String what) {
        failed++;
        System.out.println(part + ": " + what);
    }

    static void throwsIndex(String what, Call call) {
        throwsExactly(what, call, IndexOutOfBoundsException.class);
    }

    static void throwsArgument(String what, Call call) {
        throwsExactly(what, call, IllegalArgumentException.class);
    }

    static void throwsState(String what, Call call) {
        throwsExactly(what, call, IllegalStateException.class);
    }

    /** The exact class, as the machine's own exceptions are subclasses of what the document names. */
    private static void throwsExactly(String what, Call call, Class<?> want) {
        Object got;
        try {
            got = call.answer();
        } catch (RuntimeException e) {
            got = e.getClass();
        }
        due(what, got, want);
    }

    /** Prints the sum and ends the program. */
    static void finish() {
        System.out.println("own checks: " + passed + " passed, " + failed + " failed");
        System.exit(failed == 0 ? 0 : 1);
    }
}
