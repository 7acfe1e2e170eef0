import java.util.NoSuchElementException;
import java.util.TreeSet;

/** Counts what was checked, and tells what was not as due. */
final class Checks {
    static final int PROMISES = 59;

    private static int passed = 0;
    private static int failed = 0;
    private static int promise = 0;
    private static String about = "";
    private static final TreeSet<Integer> met = new TreeSet<>();

    private Checks() {
    }

    /** What is checked from here on belongs to this promise; 0 for none. */
    static void promise(int number) {
        promise = number;
    }

    /** What the checks from here on are about, told with each that fails. */
    static void about(String what) {
        about = what.isEmpty() ? "" : what + ": ";
    }

    /** How many checks were made as yet. */
    static int made() {
        return passed + failed;
    }

    static boolean allPassed() {
        return failed == 0;
    }

    static void due(String what, long got, long want) {
        if (got == want) {
            passed++;
            met.add(promise);
        } else {
            fail(what + " answered " + got + ", due is " + want);
        }
    }

    static void due(String what, boolean got, boolean want) {
        due(what, got ? 1 : 0, want ? 1 : 0);
    }

    static void due(String what, String got, String want) {
        if (got.equals(want)) {
            due(what, 0, 0);
        } else {
            fail(what + " is " + got + ", due is " + want);
        }
    }

    static void fail(String what) {
        failed++;
        if (failed <= 50) {
            System.out.println("promise " + promise + ": " + about + what);
        }
    }

    /** The answer must be a refusal with this trouble. */
    static void refused(StewardHeaps x, String what, long got, long none, int trouble) {
        due(what, got, none);
        due(what + ", trouble()", x.trouble(), trouble);
    }

    static void refused(StewardHeaps x, String what, boolean got, int trouble) {
        refused(x, what, got ? 1 : 0, 0, trouble);
    }

    /** The answer must be due, and the call not refused. */
    static void answered(StewardHeaps x, String what, long got, long want) {
        due(what, got, want);
        due(what + ", trouble()", x.trouble(), 0);
    }

    static void answered(StewardHeaps x, String what, boolean got) {
        answered(x, what, got ? 1 : 0, 1);
    }

    static void heapsAre(StewardHeaps x, int c, int... heights) {
        due("how many heaps", x.cellar(c, 1), heights.length);
        for (int i = 0; i < heights.length; i++) {
            due("heap(" + c + ", " + i + ")", x.heap(c, i), heights[i]);
        }
    }

    static void noneLed(StewardHeaps x, int i) {
        boolean thrown = false;
        try {
            x.led(i);
        } catch (NoSuchElementException e) {
            thrown = true;
        }
        due("led(" + i + ") throws", thrown, true);
    }

    static boolean end() {
        for (int number = 1; number <= PROMISES; number++) {
            if (!met.contains(number)) {
                failed++;
                System.out.println("promise " + number + " has no check");
            }
        }
        System.out.println(passed + " passed, " + failed + " failed");
        return failed == 0;
    }
}
