import java.util.NoSuchElementException;
import java.util.TreeSet;

/** Counts what was checked, and tells what was not as due. */
final class Checks {
    static final int PROMISES = 59;

    private static int passed = 0;
    private static int failed = 0;
    private static int promise = 0;
    private static final TreeSet<Integer> met = new TreeSet<>();

    private Checks() {
    }

    /** What is checked from here on belongs to this promise; 0 for none. */
    static void promise(int number) {
        promise = number;
    }

    static void due(String what, long got, long want) {
        if (got == want) {
            passed++;
            met.add(promise);
        } else {
            fail(what + " answered " + got + ", due is " + want);
        }
    }

    static void due(String what, boolean got, boolean want) {
        due(what, got ? 1 : 0, want ? 1 : 0);
    }

    static void fail(String what) {
        failed++;
        if (failed <= 50) {
            System.out.println("promise " + promise + ": " + what);
        }
    }

    /** The answer must be a refusal with this trouble. */
    static void refused(StewardHeaps x, String what, long got, long none, int trouble) {
        due(what, got, none);
        due(what + ", trouble()", x.trouble(), trouble);
    }

    /** The answer must be due, and the call not refused. */
    static void answered(StewardHeaps x, String what, long got, long want) {
        due(what, got, want);
        due(what + ", trouble()", x.trouble(), 0);
    }

    static void noneLed(StewardHeaps x, int i) {
        boolean thrown = false;
        try {
            x.led(i);
        } catch (NoSuchElementException e) {
            thrown = true;
        }
        due("led(" + i + ") throws", thrown, true);
    }

    static boolean end() {
        for (int number = 1; number <= PROMISES; number++) {
            if (!met.contains(number)) {
                failed++;
                System.out.println("promise " + number + " has no check");
            }
        }
        System.out.println(passed + " passed, " + failed + " failed");
        return failed == 0;
    }
}
