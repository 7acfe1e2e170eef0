/** Feeds texts. */
final class Texts {
    /** Cellars a to d, one of each law. */
    static final String FOUR = "store hold 3 sleeps 50;cellar a steward 3 1;cellar b banker 4 2;"
            + "cellar c miser 2 2 1;cellar d giver 3 2 1";

    private Texts() {
    }

    /** Feeds a text, twenty bytes at a time, the last of them blanks. */
    static void feed(StewardHeaps x, String text) {
        for (int from = 0; from < text.length(); from += 20) {
            int[] numbers = new int[5];
            for (int i = 0; i < 20; i++) {
                int sign = from + i < text.length() ? text.charAt(from + i) : ' ';
                numbers[i / 4] = numbers[i / 4] << 8 | sign;
            }
            x.feed(numbers[0], numbers[1], numbers[2], numbers[3], numbers[4]);
        }
    }

    static int tell(StewardHeaps x, String text) {
        feed(x, text);
        return x.store(text.length());
    }

    /** A new object with the text as its store. */
    static StewardHeaps of(String text) {
        StewardHeaps x = new StewardHeaps();
        int cellars = tell(x, text);
        if (cellars < 1) {
            Checks.fail("not taken: " + text + " (" + x.fault() + " at " + x.where() + ")");
        }
        return x;
    }

    /** A new object with one cellar, hold 3, sleeps 50. */
    static StewardHeaps cellar(String lawAndHeaps) {
        return of("store hold 3 sleeps 50;cellar a " + lawAndHeaps);
    }
}
