/** Promises 3, 6, 7, 58 and 59: a store, and what is now; their edges are in EdgesOfTexts, EdgesOfNights and EdgesOfActs. */
final class StoreTest {
    private static final String STORE = "store hold 3 sleeps 0;";

    private StoreTest() {
    }

    static void run() {
        taking();
        cellars();
        sizes();
        refusalsOfMoreThanOneNumber();
    }

    private static void taking() {
        Checks.promise(3);
        StewardHeaps x = new StewardHeaps();
        Checks.answered(x, "a store", Texts.tell(x, Texts.FOUR), 4);
        x.night();
        Checks.answered(x, "another store", Texts.tell(x, STORE + "cellar x giver 5;cellar y miser 2"), 2);
        Checks.due("stones of the new store", x.size(6), 7);
        x.night();
        Checks.due("the laws of the new one", x.heap(0, 0), 1);
        Checks.answered(x, "words of eight letters, wholes with noughts ahead, few blanks", Texts.tell(x, "store  hold003sleeps099 ; "
                + "cellar abcdefgh steward30 010;unsure abcdefgh9;seen abcdefgh night00heaps60"), 1);
        Checks.due("sleeps", x.size(1), 99);
    }

    private static void cellars() {
        StewardHeaps x = Texts.of(Texts.FOUR);
        Checks.promise(6);
        for (int c = 0; c < 4; c++) {
            Checks.answered(x, "law", x.cellar(c, 0), c);
        }
        Checks.answered(x, "heaps", x.cellar(2, 1), 3);
        Checks.answered(x, "stones", x.cellar(1, 2), 6);
        Checks.answered(x, "greatest", x.cellar(1, 3), 4);
        Checks.answered(x, "held", x.cellar(1, 4), 0);
        x.night();
        Checks.answered(x, "held", x.cellar(1, 4), 2);
        Checks.answered(x, "stones, held ones too", x.cellar(1, 2), 6);
        Checks.promise(7);
        x = Texts.cellar("giver 2 7 1 7");
        int[] heights = {7, 7, 2, 1};
        for (int i = 0; i < 4; i++) {
            Checks.answered(x, "heap(0, " + i + ")", x.heap(0, i), heights[i]);
        }
    }

    private static void sizes() {
        Checks.promise(58);
        StewardHeaps x = Texts.of(Texts.FOUR + ";unsure a 1;unsure b 2;seen a night 1 heaps 3");
        int[] sizes = {3, 50, 4, 2, 1, 0, 21, 0, 0, 0};
        for (int what = 0; what < sizes.length; what++) {
            Checks.due("size(" + what + ")", x.size(what), sizes[what]);
        }
        x.night();
        x.add(0, 5);
        x.image();
        x.feed(0, 0, 0, 0, 0);
        int[] later = {3, 50, 4, 2, 1, 1, 26, 2, 1, 20};
        for (int what = 0; what < later.length; what++) {
            Checks.due("size(" + what + ")", x.size(what), later[what]);
        }
    }

    /** The first number that a promise tells goes ahead. */
    private static void refusalsOfMoreThanOneNumber() {
        Checks.promise(59);
        StewardHeaps x = Texts.of(Texts.FOUR);
        Checks.refused(x, "heaps(9, 1000)", x.heaps(9, 1000), -1, 1);
        Checks.refused(x, "source(0, 99, 99)", x.source(0, 99, 99), -1, 1);
        Checks.refused(x, "odds(4, 9, 61, true)", x.odds(4, 9, 61, true), -1, 1);
        Checks.refused(x, "add(4, 31)", x.add(4, 31), -1, 1);
        x.add(0, 30);
        x.add(0, 20);
        Checks.refused(x, "add(0, 31) to 54", x.add(0, 31), -1, 2);
        StewardHeaps none = new StewardHeaps();
        Checks.refused(none, "ways(61) without a store", none.ways(61), -1, 1);
        Checks.refused(none, "comes(10, ..) without a store", none.comes(10, true, true, true), -100, 1);
    }
}
