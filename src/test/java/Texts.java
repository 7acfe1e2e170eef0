/** Feeds texts. */
final class Texts {
    /** Cellars a to d, one of each law. */
    static final String FOUR = "store hold 3 sleeps 50;cellar a steward 3 1;cellar b banker 4 2;"
            + "cellar c miser 2 2 1;cellar d giver 3 2 1";

    private Texts() {
    }

    /** Feeds a text, twenty bytes at a time, the last of them blanks. */
    static void feed(StewardHeaps x, String text) {
        for (int from = 0; from < text.length(); from += 20) {
            int[] numbers = new int[5];
            for (int i = 0; i < 20; i++) {
                int sign = from + i < text.length() ? text.charAt(from + i) : ' ';
                numbers[i / 4] = numbers[i / 4] << 8 | sign;
            }
            x.feed(numbers[0], numbers[1], numbers[2], numbers[3], numbers[4]);
        }
    }

    static int tell(StewardHeaps x, String text) {
        feed(x, text);
        return x.store(text.length());
    }

    /** A new object with the text as its store. */
    static StewardHeaps of(String text) {
        StewardHeaps x = new StewardHeaps();
        int cellars = tell(x, text);
        if (cellars < 1) {
            Checks.fail("not taken: " + text + " (" + x.fault() + " at " + x.where() + ")");
        }
        return x;
    }

    /** A new object with one cellar, hold 3, sleeps 50. */
    static StewardHeaps cellar(String lawAndHeaps) {
        return of("store hold 3 sleeps 50;cellar a " + lawAndHeaps);
    }

    /** A new object with one cellar of a law, hold 3, and these heaps; more of them than a text may tell are added. */
    static StewardHeaps heaps(String law, int... heights) {
        StringBuilder text = new StringBuilder(law);
        int told = 0;
        int stones = 0;
        while (told < heights.length && told < 8 && stones + heights[told] <= 40) {
            stones += heights[told];
            text.append(' ').append(heights[told]);
            told++;
        }
        StewardHeaps x = cellar(text.toString());
        add(x, 0, heights, told);
        return x;
    }

    /** Adds heaps from one place on. */
    static void add(StewardHeaps x, int c, int[] heights, int from) {
        for (int i = from; i < heights.length; i++) {
            x.add(c, heights[i]);
        }
    }

    /** As many heaps as a cellar can have: sixty of one stone each. */
    static StewardHeaps sixtyHeaps(String law) {
        return heaps(law, ones(60));
    }

    /** Heaps of one stone. */
    static int[] ones(int many) {
        int[] heights = new int[many];
        java.util.Arrays.fill(heights, 1);
        return heights;
    }

    /** A cellar of a law in which no heap is left. */
    static StewardHeaps noHeaps(String law) {
        StewardHeaps x = cellar(law + " 1");
        x.take(0, 0);
        return x;
    }

    /** The text must be taken, with so many cellars. */
    static StewardHeaps sound(String text, int cellars) {
        StewardHeaps x = new StewardHeaps();
        Checks.answered(x, "store of " + text, tell(x, text), cellars);
        return x;
    }

    /** The text must have just this fault, at the place that ^ marks. */
    static void faulty(int fault, String marked) {
        int place = marked.indexOf('^');
        faulty(fault, marked.substring(0, place) + marked.substring(place + 1), place);
    }

    static void faulty(int fault, String text, int place) {
        StewardHeaps x = new StewardHeaps();
        Checks.refused(x, "store of " + text, tell(x, text), StewardHeaps.NONE, 4);
        Checks.due(text + ", fault()", x.fault(), fault);
        Checks.due(text + ", where()", x.where(), place);
    }

    /** All that acts can change, and what the store tells. */
    static String stateOf(StewardHeaps x) {
        StringBuilder told = new StringBuilder("sizes");
        for (int what = 0; what <= 9; what++) {
            told.append(' ').append(x.size(what));
        }
        for (int c = 0; c < x.size(2); c++) {
            told.append("; law ").append(x.cellar(c, 0)).append(" held ").append(x.cellar(c, 4)).append(" heaps");
            for (int i = 0; i < x.cellar(c, 1); i++) {
                told.append(' ').append(x.heap(c, i));
            }
        }
        return told.toString();
    }
}
