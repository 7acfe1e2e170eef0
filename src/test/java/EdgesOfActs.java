/** Edges of promises 50 to 59: acts, undoing, images, what is told. */
final class EdgesOfActs {
    private static final String STILL = "store hold 9 sleeps 100;cellar a miser 1;cellar b giver 1;cellar c steward 2 1;cellar d miser 2 1";

    private EdgesOfActs() {
    }

    // ---- promise 50

    @Edge(promise = 50, says = "NIGHT: cellars in which it changes something, as bits.")
    static void nightsOfNoneAndOfAll() {
        StewardHeaps x = Texts.of(STILL);
        Checks.answered(x, "a night that changes nothing", x.night(), 0);
        Checks.due("it goes by", x.size(5), 1);
        Checks.due("and can be undone", x.size(7), 1);
        x.add(2, 1);
        Checks.answered(x, "a night that changes the third", x.night(), 4);
        x = Texts.of("store hold 3 sleeps 0;cellar a steward 2;cellar b banker 1;cellar c miser 2;cellar d giver 2");
        Checks.answered(x, "a night that changes all", x.night(), 15);
        x = Texts.of("store hold 3 sleeps 0;cellar a steward 1;cellar b steward 1;cellar c steward 1;cellar d giver 2");
        Checks.answered(x, "a night that changes the last", x.night(), 8);
    }

    @Edge(promise = 50, says = "NONE: 1 (no STORE)")
    static void nightWithoutStore() {
        Refusals.withoutStore("night()", -1, (x, n) -> x.night());
        StewardHeaps x = new StewardHeaps();
        x.night();
        Checks.due("no night went by", x.size(5), 0);
        Checks.due("nothing to undo", x.size(7), 0);
    }

    @Edge(promise = 50, says = "3 (999 went by)")
    static void asManyNightsAsCallsAreFewerThan999() {
        // An object has 512 calls, so no run gets to 999 nights: none of them may be refused.
        StewardHeaps x = Texts.of("store hold 3 sleeps 0;cellar a steward 3 1");
        for (int n = 1; n <= 500; n++) {
            Checks.due("night " + n, x.night(), 1);
        }
        Checks.due("trouble()", x.trouble(), 0);
        Checks.due("nights gone by", x.size(5), 500);
        Checks.heapsAre(x, 0, 2, 1, 1);
    }

    // ---- promise 51

    @Edge(promise = 51, says = "ADD a HEAP (1 .. 30): how many HEAPS there are then.")
    static void leastAndGreatestHeapAdded() {
        StewardHeaps x = Texts.cellar("giver 5");
        Checks.answered(x, "add(0, 1)", x.add(0, 1), 2);
        Checks.answered(x, "add(0, 30)", x.add(0, 30), 3);
        Checks.heapsAre(x, 0, 30, 5, 1);
        x = Texts.noHeaps("giver");
        Checks.answered(x, "add(0, 7) to none", x.add(0, 7), 1);
        Checks.heapsAre(x, 0, 7);
        x = Texts.cellar("giver 1 1 1 1 1 1 1 1");
        Checks.answered(x, "a ninth heap", x.add(0, 1), 9);
    }

    @Edge(promise = 51, says = "NONE: 1")
    static void addToNone() {
        Refusals.ofNoCellar("add(c, 1)", -1, (x, c) -> x.add(c, 1));
    }

    @Edge(promise = 51, says = "NONE: 1; 2")
    static void addTooFewOrTooMany() {
        Refusals.beyond("add(0, many)", -1, 1, 30, (x, many) -> x.add(0, many));
    }

    @Edge(promise = 51, says = "3 (there would be more than 60 STONES)")
    static void addUpToSixty() {
        StewardHeaps x = Texts.cellar("giver 30 1");
        Refusals.allRefused(x, "add(0, many) to 31", -1, 3, (y, many) -> y.add(0, many), 30);
        Checks.answered(x, "add(0, 29) to 31", x.add(0, 29), 3);
        Refusals.allRefused(x, "add(0, many) to 60", -1, 3, (y, many) -> y.add(0, many), 1, 2, 30);
        Checks.due("stones", x.cellar(0, 2), 60);
        x.take(0, 0);
        Checks.answered(x, "add(0, 1) to 59", x.add(0, 1), 4);
        x = Texts.of("store hold 3 sleeps 0;cellar a banker 30 10;cellar b giver 30 10");
        x.night();
        Refusals.allRefused(x, "add(0, many) to 38 and 2 held", -1, 3, (y, many) -> y.add(0, many), 21, 22, 30);
        Checks.answered(x, "add(0, 20) to 38 and 2 held", x.add(0, 20), 3);
        x = Texts.of("store hold 3 sleeps 0;cellar a giver 30 10;cellar b giver 30 10");
        Checks.answered(x, "stones of other cellars don't count", x.add(1, 20), 3);
        x = Texts.heaps("giver", Texts.ones(59));
        Checks.answered(x, "the sixtieth heap", x.add(0, 1), 60);
        Checks.refused(x, "no heap more", x.add(0, 1), -1, 3);
    }

    // ---- promises 52 and 53

    @Edge(promise = 52, says = "TAKE: how many STONES there are then.")
    static void lastStoneOfAHeapAndOfAll() {
        StewardHeaps x = Texts.cellar("giver 3 1");
        Checks.answered(x, "the last of a heap", x.take(0, 1), 3);
        Checks.heapsAre(x, 0, 3);
        x.take(0, 0);
        x.take(0, 0);
        Checks.answered(x, "the last of all", x.take(0, 0), 0);
        Checks.heapsAre(x, 0);
        x = Texts.cellar("giver 3 3 2");
        Checks.answered(x, "one of two like heaps", x.take(0, 0), 7);
        Checks.heapsAre(x, 0, 3, 2, 2);
        x = Texts.cellar("banker 2");
        x.night();
        Checks.answered(x, "the last one, one held", x.take(0, 0), 1);
    }

    @Edge(promise = 52, says = "NONE: 1 (i, too)")
    static void takeOfNone() {
        Refusals.ofNoCellar("take(c, 0)", -1, (x, c) -> x.take(c, 0));
        Refusals.allRefused(Texts.of(Texts.FOUR), "take(0, i)", -1, 1, (x, i) -> x.take(0, i),
                -1, 2, 3, Integer.MIN_VALUE, Integer.MAX_VALUE);
        Refusals.allRefused(Texts.noHeaps("giver"), "take(0, i) of none", -1, 1, (x, i) -> x.take(0, i), 0);
    }

    @Edge(promise = 53, says = "JOIN: the height then.")
    static void joinedToOneOfAll() {
        StewardHeaps x = Texts.cellar("giver 9 6 4 3");
        Checks.answered(x, "the last two", x.join(0, 3, 2), 7);
        Checks.heapsAre(x, 0, 9, 7, 6);
        Checks.answered(x, "the first and the last", x.join(0, 0, 2), 15);
        Checks.heapsAre(x, 0, 15, 7);
        Checks.answered(x, "all", x.join(0, 1, 0), 22);
        Checks.heapsAre(x, 0, 22);
        x = Texts.heaps("giver", 30, 30);
        Checks.answered(x, "sixty stones", x.join(0, 0, 1), 60);
        Checks.heapsAre(x, 0, 60);
    }

    @Edge(promise = 53, says = "NONE: 1 (i, j, too; unlike)")
    static void joinOfNoneAndOfLikeOnes() {
        Refusals.ofNoCellar("join(c, 0, 1)", -1, (x, c) -> x.join(c, 0, 1));
        Refusals.allRefused(Texts.of(Texts.FOUR), "join(0, i, 0)", -1, 1, (x, i) -> x.join(0, i, 0),
                -1, 2, 3, Integer.MIN_VALUE, Integer.MAX_VALUE);
        Refusals.allRefused(Texts.of(Texts.FOUR), "join(0, 0, j)", -1, 1, (x, j) -> x.join(0, 0, j),
                -1, 2, 3, Integer.MIN_VALUE, Integer.MAX_VALUE);
        Refusals.allRefused(Texts.of(Texts.FOUR), "join(2, i, i)", -1, 1, (x, i) -> x.join(2, i, i), 0, 1, 2, 3, -1);
        StewardHeaps x = Texts.cellar("giver 2 2");
        Checks.answered(x, "heaps as high as each other are unlike ones", x.join(0, 0, 1), 4);
    }

    // ---- promise 54

    @Edge(promise = 54, says = "UNDO: true; false: 6")
    static void nothingToUndo() {
        StewardHeaps x = new StewardHeaps();
        Checks.refused(x, "undo() without a store", x.undo(), 6);
        x = Texts.of(Texts.FOUR);
        Checks.refused(x, "undo() of a new store", x.undo(), 6);
        x.night();
        Checks.answered(x, "undo() of a night", x.undo());
        Checks.refused(x, "undo() once more", x.undo(), 6);
        x.add(9, 1);
        x.add(0, 31);
        x.take(0, 9);
        x.join(0, 0, 0);
        x.image();
        x.still(0);
        Checks.refused(x, "undo() of refused acts and images", x.undo(), 6);
    }

    @Edge(promise = 54, says = "UNDO: the latest (16 are kept).")
    static void sixteenActsAreKept() {
        StewardHeaps x = Texts.cellar("giver 1");
        for (int acts = 1; acts <= 16; acts++) {
            x.add(0, 1);
            Checks.due("acts that can be undone", x.size(7), acts);
        }
        for (int acts = 16; acts >= 1; acts--) {
            Checks.answered(x, "undo()", x.undo());
            Checks.due("heaps", x.cellar(0, 1), acts);
            Checks.due("acts that can be undone", x.size(7), acts - 1);
        }
        Checks.refused(x, "undo() once more", x.undo(), 6);
    }

    @Edge(promise = 54, says = "UNDO: the latest (16 are kept).")
    static void seventeenthActDrivesOutTheFirst() {
        StewardHeaps x = Texts.cellar("giver 1");
        for (int acts = 1; acts <= 50; acts++) {
            x.add(0, 1);
            Checks.due("acts that can be undone", x.size(7), Math.min(acts, 16));
        }
        for (int i = 1; i <= 5; i++) {
            x.undo();
            Checks.due("heaps", x.cellar(0, 1), 51 - i);
        }
        x.take(0, 0);
        x.night();
        for (int i = 1; i <= 13; i++) {
            Checks.answered(x, "undo()", x.undo());
        }
        Checks.due("heaps of the oldest kept", x.cellar(0, 1), 35);
        Checks.refused(x, "undo() beyond it", x.undo(), 6);
        Checks.due("heaps", x.cellar(0, 1), 35);
    }

    @Edge(promise = 54, says = "ACTS: NIGHT (of all cellars), ADD a HEAP, TAKE a stone of a HEAP, JOIN two HEAPS.")
    static void eachActIsUndoneWhole() {
        StewardHeaps x = Texts.of(Texts.FOUR);
        String first = Texts.stateOf(x);
        x.night();
        String second = Texts.stateOf(x);
        x.take(1, 0);
        String third = Texts.stateOf(x);
        x.join(3, 0, 2);
        String fourth = Texts.stateOf(x);
        x.add(2, 30);
        for (String due : new String[] {fourth, third, second, first}) {
            Checks.answered(x, "undo()", x.undo());
            Checks.due("all", Texts.stateOf(x), due);
        }
    }

    // ---- promises 55 and 56

    @Edge(promise = 55, says = "IMAGES: up to 3")
    static void upToThreeImages() {
        StewardHeaps x = Texts.of(Texts.FOUR);
        for (int i = 0; i < 3; i++) {
            Checks.answered(x, "image()", x.image(), i);
            Checks.due("images", x.size(8), i + 1);
        }
        Checks.due("no acts", x.size(7), 0);
    }

    @Edge(promise = 55, says = "NONE: 1 (no STORE)")
    static void imageWithoutStore() {
        Refusals.withoutStore("image()", -1, (x, n) -> x.image());
        StewardHeaps x = new StewardHeaps();
        x.image();
        Checks.due("images", x.size(8), 0);
    }

    @Edge(promise = 55, says = "NONE: 1 (no STORE); 3")
    static void fourthImage() {
        StewardHeaps x = Texts.of(Texts.FOUR);
        x.image();
        x.night();
        x.image();
        x.image();
        x.add(0, 9);
        Checks.refused(x, "image()", x.image(), -1, 3);
        Checks.refused(x, "image() again", x.image(), -1, 3);
        Checks.due("images", x.size(8), 3);
        x.back(2);
        Checks.heapsAre(x, 0, 2, 2);
        x.back(0);
        Checks.heapsAre(x, 0, 3, 1);
        Checks.refused(x, "image() behind going back", x.image(), -1, 3);
        Texts.tell(x, Texts.FOUR);
        Checks.answered(x, "image() of a new store", x.image(), 0);
    }

    @Edge(promise = 56, says = "All is as by an IMAGE (all IMAGES stay): true;")
    static void allImagesStay() {
        StewardHeaps x = Texts.of(Texts.FOUR);
        String[] due = new String[3];
        for (int i = 0; i < 3; i++) {
            x.image();
            due[i] = heapsOf(x);
            x.night();
            x.add(i, 7);
        }
        for (int i : new int[] {0, 2, 2, 1, 0}) {
            Checks.answered(x, "back(" + i + ")", x.back(i));
            Checks.due("all cellars", heapsOf(x), due[i]);
            Checks.due("nights gone by", x.size(5), i);
            Checks.due("images", x.size(8), 3);
            x.night();
        }
    }

    /** The state from its cellars on. */
    private static String heapsOf(StewardHeaps x) {
        String state = Texts.stateOf(x);
        return state.substring(state.indexOf(';'));
    }

    @Edge(promise = 56, says = "gone back to one, nothing can be undone.")
    static void nothingToUndoBehindAnImage() {
        StewardHeaps x = Texts.of(Texts.FOUR);
        x.night();
        x.image();
        x.night();
        x.back(0);
        Checks.due("acts that can be undone", x.size(7), 0);
        Checks.refused(x, "undo()", x.undo(), 6);
        x.take(0, 0);
        Checks.due("acts that can be undone", x.size(7), 1);
        Checks.answered(x, "undo() of what came then", x.undo());
        Checks.heapsAre(x, 0, 2, 2);
        Checks.refused(x, "undo() beyond it", x.undo(), 6);
        x.night();
        x.undo();
        Checks.due("an image isn't undone", x.size(8), 1);
    }

    @Edge(promise = 56, says = "false: 1")
    static void backToNone() {
        StewardHeaps x = new StewardHeaps();
        Checks.refused(x, "back(0) without a store", x.back(0), 1);
        Refusals.allRefused(Texts.of(Texts.FOUR), "back(image) of none", 0, 1, (y, image) -> y.back(image) ? 1 : 0,
                0, 1, -1, Integer.MIN_VALUE, Integer.MAX_VALUE);
        x = Texts.of(Texts.FOUR);
        x.image();
        x.image();
        x.night();
        Refusals.allRefused(x, "back(image) of two", 0, 1, (y, image) -> y.back(image) ? 1 : 0,
                2, 3, -1, Integer.MIN_VALUE, Integer.MAX_VALUE);
        x.image();
        Refusals.allRefused(x, "back(image) of three", 0, 1, (y, image) -> y.back(image) ? 1 : 0, 3, 4, -1);
    }

    // ---- promises 57 to 59

    @Edge(promise = 57, says = "The i-th cellar, by numbers, in which a NIGHT changes nothing.")
    static void ledFromTheFirstToTheLast() {
        StewardHeaps x = Texts.of(STILL);
        for (int i = 0; i < 4; i++) {
            Checks.due("led(" + i + ")", x.led(i), i);
        }
        x = Texts.of(Texts.FOUR);
        Checks.due("led(0), the third", x.led(0), 2);
        Checks.due("led(1), the last", x.led(1), 3);
        x = Texts.cellar("banker 1");
        x.night();
        Checks.due("led(0), without heaps", x.led(0), 0);
    }

    @Edge(promise = 57, says = "NoSuchElementException if there is none such")
    static void ledToNone() {
        Checks.noneLed(new StewardHeaps(), 0);
        StewardHeaps x = Texts.of(STILL);
        for (int i : new int[] {4, 5, -1, Integer.MIN_VALUE, Integer.MAX_VALUE}) {
            Checks.noneLed(x, i);
        }
        x = Texts.of(Texts.FOUR);
        Checks.noneLed(x, 2);
        Checks.noneLed(x, 3);
        Checks.noneLed(Texts.cellar("steward 2"), 0);
        Texts.tell(x, "store hold 3 sleeps 0;cellar a steward 2");
        Checks.noneLed(x, 0);
    }

    @Edge(promise = 58, says = "0 hold, 1 sleeps, 2 cellars, 3 unsure ones, 4 seen, 5 nights gone by NOW, 6 STONES of all NOW, "
            + "7 ACTS that can be undone, 8 IMAGES, 9 bytes of THE TAPE.")
    static void sizesOfAll() {
        StewardHeaps x = Texts.of("store hold 9 sleeps 100;cellar a steward 30 10;cellar b banker 30 10;cellar c giver 30 10"
                + ";cellar d miser 30 10;unsure a 1;unsure b 2;unsure c 3;seen a night 1 heaps 3;seen b night 1 heaps 3");
        x.night();
        x.image();
        x.night();
        x.undo();
        x.add(0, 20);
        x.take(2, 0);
        x.feed(0, 0, 0, 0, 0);
        int[] sizes = {9, 100, 4, 3, 2, 1, 179, 3, 1, 20};
        for (int what = 0; what < sizes.length; what++) {
            Checks.due("size(" + what + ")", x.size(what), sizes[what]);
        }
        Checks.due("held", x.cellar(1, 4), 2);
    }

    @Edge(promise = 58, says = "NONE for others")
    static void sizesOfOthers() {
        for (StewardHeaps x : new StewardHeaps[] {new StewardHeaps(), Texts.of(Texts.FOUR)}) {
            for (int what : new int[] {-1, 10, 11, Integer.MIN_VALUE, Integer.MAX_VALUE}) {
                Checks.due("size(" + what + ")", x.size(what), -1);
            }
        }
    }

    @Edge(promise = 58, says = "0 for what there isn't")
    static void sizesOfNothing() {
        StewardHeaps x = new StewardHeaps();
        for (int what = 0; what <= 9; what++) {
            Checks.due("size(" + what + ")", x.size(what), 0);
        }
        Texts.tell(x, "store hold 9 sleeps 9");
        for (int what = 0; what <= 9; what++) {
            Checks.due("size(" + what + ") behind a fault", x.size(what), 0);
        }
        x = Texts.cellar("giver 1");
        x.take(0, 0);
        int[] sizes = {3, 50, 1, 0, 0, 0, 0, 1, 0, 0};
        for (int what = 0; what <= 9; what++) {
            Checks.due("size(" + what + ") without stones", x.size(what), sizes[what]);
        }
    }

    @Edge(promise = 59, says = "TROUBLE of the latest call that may be refused (those of which a number is told here): 0 it wasn't;")
    static void troubleOfCallsThatWereNot() {
        StewardHeaps x = new StewardHeaps();
        Checks.due("trouble() of a new object", x.trouble(), 0);
        x.undo();
        Checks.due("trouble()", x.trouble(), 6);
        for (int i = 0; i < 46; i++) {
            x.feed(0, 0, 0, 0, 0);
        }
        Checks.due("trouble() behind feeds, one of them beyond 900", x.trouble(), 6);
        x.size(10);
        x.fault();
        x.where();
        x.trouble();
        Checks.noneLed(x, 0);
        Checks.due("trouble() behind calls of which no number is told", x.trouble(), 6);
        x = Texts.of(Texts.FOUR);
        x.heap(9, 9);
        x.alike(0, 1);
        Checks.due("trouble() of an answer of -2", x.trouble(), 0);
        x.heap(9, 9);
        x.comes(1, true, true, false);
        Checks.due("trouble() of an answer of -1", x.trouble(), 0);
    }

    @Edge(promise = 59, says = "1 there is none such; 2 a number; 3 no room; 4 a FAULT; 5 not so; 6 there is none.")
    static void eachTrouble() {
        StewardHeaps x = Texts.of(Texts.FOUR);
        x.heap(4, 0);
        Checks.due("none such", x.trouble(), 1);
        x.heaps(0, 1000);
        Checks.due("a number", x.trouble(), 2);
        x.add(0, 30);
        x.add(0, 30);
        Checks.due("no room", x.trouble(), 3);
        x.store(0);
        Checks.due("a fault", x.trouble(), 4);
        x.undo();
        Checks.due("it wasn't", x.trouble(), 0);
        x.undo();
        Checks.due("there is none", x.trouble(), 6);
        Checks.due("trouble() leaves it", x.trouble(), 6);
    }
}
