/** Promises 1 to 8, and 57 to 59: the store, and what is now. */
final class StoreTest {
    private static final String STORE = "store hold 3 sleeps 0;";

    private StoreTest() {
    }

    static void run() {
        newObject();
        feeding();
        taking();
        forms();
        names();
        bounds();
        rooms();
        lacking();
        firstFault();
        faultAndWhere();
        cellars();
        stillOnes();
        ledOnes();
        sizes();
        troubles();
    }

    private static void newObject() {
        Checks.promise(1);
        StewardHeaps x = new StewardHeaps();
        for (int what = 0; what <= 9; what++) {
            Checks.due("size(" + what + ")", x.size(what), 0);
        }
        Checks.due("trouble()", x.trouble(), 0);
        Checks.due("fault()", x.fault(), 0);
        Checks.due("where()", x.where(), StewardHeaps.NONE);
        Checks.refused(x, "cellar(0, 0)", x.cellar(0, 0), -1, 1);
        Checks.refused(x, "ways(0)", x.ways(0), -1, 1);
        Checks.refused(x, "night()", x.night(), -1, 1);
        Checks.refused(x, "image()", x.image(), -1, 1);
        Checks.refused(x, "could()", x.could(), -1, 1);
        Checks.refused(x, "surely()", x.surely(), -1, 1);
        Checks.refused(x, "askLeaves()", x.askLeaves(), -1, 1);
        Checks.refused(x, "rest(0)", x.rest(0), -1, 1);
        Checks.refused(x, "comes", x.comes(0, true, true, true), -100, 1);
        Checks.refused(x, "rank(0)", x.rank(0), -1000, 1);
        Checks.noneLed(x, 0);
    }

    private static void feeding() {
        Checks.promise(2);
        StewardHeaps x = new StewardHeaps();
        x.store(-1);
        for (int i = 1; i <= 45; i++) {
            Checks.due("feed " + i, x.feed(0x20202020, 0x20202020, 0x20202020, 0x20202020, 0x20202020), 20 * i);
        }
        Checks.due("feed over 900", x.feed(0, 0, 0, 0, 0), -1);
        Checks.due("size(9)", x.size(9), 900);
        Checks.due("feed leaves the trouble", x.trouble(), 2);
        Checks.due("store of 900 blanks", x.store(900), -1);
        Checks.due("its place", x.where(), 900);
        Checks.due("size(9)", x.size(9), 0);

        // The highest byte first, also of numbers below 0.
        x.feed(0x73746f72, 0xe5202020, 0, 0, 0);
        x.store(20);
        Checks.due("a word, then a byte that begins no token", x.where(), 0);
        Texts.feed(x, "store hold 3 sleeps 0");
        x.feed(0x20202080, 0, 0, 0, 0);
        x.store(60);
        Checks.due("fault()", x.fault(), 1);
        Checks.due("where()", x.where(), 43);
    }

    private static void taking() {
        Checks.promise(3);
        StewardHeaps x = new StewardHeaps();
        Checks.refused(x, "store(-1)", x.store(-1), -1, 2);
        Checks.refused(x, "store(1)", x.store(1), -1, 2);
        Texts.feed(x, Texts.FOUR + ";!");
        int size = x.size(9);
        Checks.refused(x, "store beyond the tape", x.store(size + 1), -1, 2);
        Checks.due("the tape stays", x.size(9), size);
        Checks.answered(x, "store of the first bytes", x.store(Texts.FOUR.length()), 4);
        Checks.due("the tape is empty", x.size(9), 0);
        x.image();
        x.night();
        Checks.refused(x, "store(0)", x.store(0), -1, 4);
        Checks.due("form at the end", x.fault(), 1);
        Checks.due("at 0", x.where(), 0);
        Checks.due("the store stays", x.size(2), 4);
        Checks.due("nights stay", x.size(5), 1);
        Checks.due("acts stay", x.size(7), 1);
        Checks.due("images stay", x.size(8), 1);
        Checks.answered(x, "another store", Texts.tell(x, STORE + "cellar x giver 5;cellar y miser 2"), 2);
        Checks.due("no night gone by", x.size(5), 0);
        Checks.due("nothing to undo", x.size(7), 0);
        Checks.due("no images", x.size(8), 0);
        Checks.due("stones of the new store", x.size(6), 7);
        Checks.refused(x, "a cellar of the old store", x.heap(2, 0), -1, 1);
        x.night();
        Checks.due("the laws of the new one", x.heap(0, 0), 1);
        x = new StewardHeaps();
        Checks.due("the longest words, wholes with zeros, no blanks", Texts.tell(x,
                "store  hold003sleeps099 ; cellar abcdefgh steward30 010;unsure abcdefgh9;seen abcdefgh night00heaps60"), 1);
        Checks.due("sleeps", x.size(1), 99);
        Checks.due("names like the other words", Texts.tell(x,
                STORE + "cellar hold steward 1;cellar night banker 1;cellar giver giver 1;cellar sleeps miser 1"), 4);
    }

    /** The text must have just this fault at this place. */
    private static void faulty(String text, int fault, int place) {
        StewardHeaps x = new StewardHeaps();
        Checks.refused(x, text, Texts.tell(x, text), -1, 4);
        Checks.due(text + ", fault()", x.fault(), fault);
        Checks.due(text + ", where()", x.where(), place);
    }

    private static void forms() {
        Checks.promise(3);
        faulty("", 1, 0);
        faulty("   ", 1, 3);
        faulty(";", 1, 0);
        faulty("stores", 1, 0);
        faulty("storehold", 1, 0);
        faulty("store abcdefghi", 1, 6);
        faulty("store hold 1234", 1, 11);
        faulty("store hold", 1, 10);
        faulty("store sleeps", 1, 6);
        faulty("store 3", 1, 6);
        faulty("store hold 3 hold", 1, 13);
        faulty("store hold 3 sleeps ;", 1, 20);
        faulty("store hold 3 sleeps 0 0", 1, 22);
        faulty(STORE, 1, 22);
        faulty(STORE + ";", 1, 22);
        faulty(STORE + "cellar Seen", 1, 29);
        for (String word : new String[] {"store", "cellar", "unsure", "seen"}) {
            faulty(STORE + "cellar " + word, 1, 29);
        }
        faulty(STORE + "cellar a stewards 3", 1, 31);
        faulty(STORE + "cellar a giver ;", 1, 37);
        faulty(STORE + "cellar a giver 3 x", 1, 39);
        faulty(STORE + "cellar a giver 3;unsure a", 1, 47);
        faulty(STORE + "cellar a giver 3;unsure a 3 3", 1, 50);
        faulty(STORE + "cellar a giver 3;seen a heaps", 1, 46);
        faulty(STORE + "cellar a giver 3;seen a night x", 1, 52);
        faulty(STORE + "cellar a giver 3;seen a night 3 4", 1, 54);
        faulty(STORE + "cellar a giver 3;seen a night 3 heaps", 1, 59);
        faulty(STORE + "cellar a giver 3\t", 1, 38);
        faulty(STORE + "cellar a giver 3-", 1, 38);
    }

    private static void names() {
        Checks.promise(3);
        faulty(STORE + "unsure a", 2, 29);
        faulty(STORE + "cellar a giver 3;unsure ab 3", 2, 46);
        faulty(STORE + "cellar ab giver 3;seen a night 1 heaps 1", 2, 45);
        faulty(STORE + "cellar a giver 3;cellar a", 3, 46);
        faulty(STORE + "cellar a giver 3;cellar b giver 3;cellar b giver 3", 3, 63);
        faulty(STORE + "cellar a giver 3;unsure a 3;unsure a 3", 3, 57);
        faulty(STORE + "cellar a giver 3;seen a night 3 heaps 1;seen a night 03", 3, 75);
        faulty("store hold 3 sleeps 0;store", 3, 22);
        faulty("store hold 3 sleeps 0;cellar a giver 3;store hold 3 sleeps 0", 3, 39);
        StewardHeaps x = new StewardHeaps();
        Checks.due("the same night of two cellars", Texts.tell(x, STORE
                + "cellar a giver 3;cellar b giver 3;seen a night 3 heaps 1;seen b night 3 heaps 1"), 2);
        Checks.due("seen", x.size(4), 2);
    }

    private static void bounds() {
        Checks.promise(3);
        faulty("store hold 1", 4, 11);
        faulty("store hold 10", 4, 11);
        faulty("store hold 3 sleeps 101", 4, 20);
        faulty(STORE + "cellar a giver 0", 4, 37);
        faulty(STORE + "cellar a giver 31", 4, 37);
        faulty(STORE + "cellar a giver 30 11", 4, 40);
        faulty(STORE + "cellar a giver 3;unsure a 0", 4, 48);
        faulty(STORE + "cellar a giver 3;unsure a 10", 4, 48);
        faulty(STORE + "cellar a giver 3;seen a night 100", 4, 52);
        faulty(STORE + "cellar a giver 3;seen a night 99 heaps 61", 4, 61);
        StewardHeaps x = new StewardHeaps();
        Checks.due("the lowest", Texts.tell(x,
                "store hold 2 sleeps 0;cellar a giver 1;unsure a 1;seen a night 0 heaps 0"), 1);
        Checks.due("the highest", Texts.tell(x,
                "store hold 9 sleeps 100;cellar a giver 30 10;unsure a 9;seen a night 99 heaps 60"), 1);
    }

    private static void rooms() {
        Checks.promise(3);
        String heaps = STORE + "cellar a giver 5 5 5 5 5 5 5 ";
        StewardHeaps x = new StewardHeaps();
        Checks.due("eight heaps of 40 stones", Texts.tell(x, heaps + "5"), 1);
        faulty(heaps + "4 1", 5, 53);
        faulty(heaps + "5 1", 4, 53);
        faulty(heaps + "4 31", 4, 53);
        String four = STORE + "cellar a giver 1;cellar b giver 1;cellar c giver 1;cellar d giver 1";
        faulty(four + ";cellar e giver 1", 5, four.length() + 1);
        faulty(four + ";cellar a giver 1", 5, four.length() + 1);
        String unsure = four + ";unsure a 1;unsure b 1;unsure c 1;unsure d 1";
        Checks.due("four unsure ones", Texts.tell(x, unsure), 4);
        Checks.due("unsure", x.size(3), 4);
        faulty(unsure + ";unsure a 1", 3, unsure.length() + 8);
        String seen = STORE + "cellar a giver 1;seen a night 1 heaps 1;seen a night 2 heaps 1;seen a night 3 heaps 1"
                + ";seen a night 4 heaps 1;seen a night 5 heaps 1;seen a night 6 heaps 1";
        Checks.due("six nights seen", Texts.tell(x, seen), 1);
        Checks.due("seen", x.size(4), 6);
        faulty(seen + ";seen a night 7 heaps 1", 5, seen.length() + 1);
        faulty(seen + ";seen x", 5, seen.length() + 1);
    }

    private static void lacking() {
        Checks.promise(3);
        faulty("cellar a", 6, 0);
        faulty("  unsure a", 6, 2);
        faulty("seen", 6, 0);
        faulty("cellar a giver 3;store hold 3 sleeps 0", 6, 0);
        faulty("store hold 3 sleeps 0", 6, 21);
        faulty("store hold 3 sleeps 0  ", 6, 23);
    }

    private static void firstFault() {
        Checks.promise(3);
        faulty("store hold 1 sleeps 101;cellar", 4, 11);
        faulty(STORE + "unsure b 10 ! cellar", 2, 29);
        faulty(STORE + "cellar a giver 31 toolongword", 4, 37);
        faulty("cellar toolongword", 6, 0);
    }

    private static void faultAndWhere() {
        StewardHeaps x = new StewardHeaps();
        Texts.tell(x, "store hold 1");
        Checks.promise(4);
        Checks.due("fault()", x.fault(), 4);
        x.store(1);
        Checks.due("fault() behind a refusal by 2", x.fault(), 4);
        Checks.promise(5);
        Checks.due("where() behind a refusal by 2", x.where(), -1);
        Texts.tell(x, "store hold 1");
        Checks.due("where()", x.where(), 11);
        Checks.due("where() again", x.where(), 11);
        x.size(99);
        x.feed(0, 0, 0, 0, 0);
        Checks.noneLed(x, 0);
        Checks.due("where() behind calls that are never refused", x.where(), 11);
        x.undo();
        Checks.due("where() behind another refusal", x.where(), -1);
        Texts.tell(x, "store hold 1");
        x.store(x.size(9));
        Checks.due("where() behind an empty text", x.where(), 0);
        Texts.tell(x, Texts.FOUR);
        Checks.promise(4);
        Checks.due("fault() behind a store", x.fault(), 0);
        Checks.promise(5);
        Checks.due("where() behind a store", x.where(), -1);
        Texts.tell(x, "store hold 1");
        Checks.due("where()", x.where(), 11);
        x.heap(0, 0);
        Checks.due("where() behind an answer", x.where(), -1);
        Checks.promise(4);
        Checks.due("fault() stays", x.fault(), 4);
    }

    private static void cellars() {
        StewardHeaps x = Texts.of(Texts.FOUR);
        Checks.promise(6);
        for (int c = 0; c < 4; c++) {
            Checks.answered(x, "law", x.cellar(c, 0), c);
        }
        Checks.answered(x, "heaps", x.cellar(2, 1), 3);
        Checks.answered(x, "stones", x.cellar(1, 2), 6);
        Checks.answered(x, "greatest", x.cellar(1, 3), 4);
        Checks.answered(x, "held", x.cellar(1, 4), 0);
        x.night();
        Checks.answered(x, "held", x.cellar(1, 4), 2);
        Checks.answered(x, "stones, held ones too", x.cellar(1, 2), 6);
        Checks.refused(x, "cellar(4, 0)", x.cellar(4, 0), -1, 1);
        Checks.refused(x, "cellar(-1, 0)", x.cellar(-1, 0), -1, 1);
        Checks.refused(x, "cellar(0, 5)", x.cellar(0, 5), -1, 1);
        Checks.refused(x, "cellar(0, -1)", x.cellar(0, -1), -1, 1);
        Checks.promise(7);
        x = Texts.cellar("giver 2 7 1 7");
        int[] heights = {7, 7, 2, 1};
        for (int i = 0; i < 4; i++) {
            Checks.answered(x, "heap(0, " + i + ")", x.heap(0, i), heights[i]);
        }
        Checks.refused(x, "heap(0, 4)", x.heap(0, 4), -1, 1);
        Checks.refused(x, "heap(0, -1)", x.heap(0, -1), -1, 1);
        Checks.refused(x, "heap(1, 0)", x.heap(1, 0), -1, 1);
        Checks.refused(x, "heap(MIN, MIN)", x.heap(Integer.MIN_VALUE, Integer.MIN_VALUE), -1, 1);
    }

    private static void stillOnes() {
        Checks.promise(8);
        StewardHeaps x = Texts.of(Texts.FOUR);
        int[] still = {0, 0, 1, 1};
        for (int c = 0; c < 4; c++) {
            Checks.answered(x, "still(" + c + ")", x.still(c), still[c]);
        }
        Checks.refused(x, "still(4)", x.still(4), -1, 1);
        x = Texts.cellar("banker 1");
        Checks.answered(x, "a stone that will be held", x.still(0), 0);
        x.night();
        Checks.answered(x, "no heap", x.still(0), 1);
        Checks.due("still changes nothing", x.size(5), 1);
    }

    private static void ledOnes() {
        Checks.promise(57);
        StewardHeaps x = Texts.of(Texts.FOUR);
        Checks.due("led(0)", x.led(0), 2);
        Checks.due("led(1)", x.led(1), 3);
        Checks.noneLed(x, 2);
        Checks.noneLed(x, -1);
        Checks.noneLed(x, Integer.MIN_VALUE);
        Checks.noneLed(x, Integer.MAX_VALUE);
    }

    private static void sizes() {
        Checks.promise(58);
        StewardHeaps x = Texts.of(Texts.FOUR + ";unsure a 1;unsure b 2;seen a night 1 heaps 3");
        int[] sizes = {3, 50, 4, 2, 1, 0, 21, 0, 0, 0};
        for (int what = 0; what < sizes.length; what++) {
            Checks.due("size(" + what + ")", x.size(what), sizes[what]);
        }
        x.night();
        x.add(0, 5);
        x.image();
        x.feed(0, 0, 0, 0, 0);
        int[] later = {3, 50, 4, 2, 1, 1, 26, 2, 1, 20};
        for (int what = 0; what < later.length; what++) {
            Checks.due("size(" + what + ")", x.size(what), later[what]);
        }
        Checks.due("size(10)", x.size(10), -1);
        Checks.due("size(-1)", x.size(-1), -1);
    }

    private static void troubles() {
        Checks.promise(59);
        StewardHeaps x = Texts.of(Texts.FOUR);
        Checks.due("not refused", x.trouble(), 0);
        x.heap(9, 0);
        Checks.due("none such", x.trouble(), 1);
        x.size(99);
        x.fault();
        x.where();
        x.feed(0, 0, 0, 0, 0);
        Checks.noneLed(x, 99);
        Checks.due("stays behind calls that are never refused", x.trouble(), 1);
        x.heaps(0, 1000);
        Checks.due("a number", x.trouble(), 2);
        x.add(0, 30);
        x.add(0, 30);
        Checks.due("no room", x.trouble(), 3);
        x.store(20);
        Checks.due("a fault", x.trouble(), 4);
        x.undo();
        Checks.due("not refused", x.trouble(), 0);
        x.undo();
        Checks.due("there is none", x.trouble(), 6);
        x.makes(0, 60);
        Checks.due("an answer of -2 is no refusal", x.trouble(), 0);
        x.heaps(9, 1000);
        Checks.due("none such ahead of a number", x.trouble(), 1);
        x.source(0, 99, 99);
        Checks.due("none such ahead of a number", x.trouble(), 1);
        x.add(0, 31);
        Checks.due("a number ahead of no room", x.trouble(), 2);
    }
}
