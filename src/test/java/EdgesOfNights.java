/** Edges of promises 6 to 16: what is now, and nights to come. */
final class EdgesOfNights {
    private static final String[] LAWS = {"steward", "banker", "miser", "giver"};
    // The giver whose nights go by longest, of all heaps up to 60 stones, until they go round.
    private static final int[] LONGEST = {11, 10, 8, 7, 6, 5, 4, 3, 2};

    private EdgesOfNights() {
    }

    /** Heaps of the only cellar behind a night. */
    private static void behindANight(StewardHeaps x, int... heights) {
        Checks.answered(x, "heaps(0, 1)", x.heaps(0, 1), heights.length);
        for (int i = 0; i < heights.length; i++) {
            Checks.due("heapIn(0, 1, " + i + ")", x.heapIn(0, 1, i), heights[i]);
        }
        x.night();
        Checks.heapsAre(x, 0, heights);
    }

    // ---- promises 6 to 8

    @Edge(promise = 6, says = "Of a cellar 0 LAW (0 steward, 1 banker, 2 miser, 3 giver), 1 how many HEAPS, 2 STONES, "
            + "3 the height of the greatest HEAP (0 none), 4 HELD")
    static void cellarWithoutHeaps() {
        for (int law = 0; law < 4; law++) {
            StewardHeaps x = Texts.noHeaps(LAWS[law]);
            Checks.answered(x, "law", x.cellar(0, 0), law);
            for (int what = 1; what <= 4; what++) {
                Checks.answered(x, "cellar(0, " + what + ")", x.cellar(0, what), 0);
            }
        }
    }

    @Edge(promise = 6, says = "3 the height of the greatest HEAP (0 none)")
    static void greatestHeapOfEachCellar() {
        StewardHeaps x = Texts.of(Texts.FOUR);
        int[] greatest = {3, 4, 2, 3};
        for (int c = 0; c < 4; c++) {
            Checks.answered(x, "cellar(" + c + ", 3)", x.cellar(c, 3), greatest[c]);
        }
        x = Texts.heaps("giver", 30, 30);
        x.join(0, 0, 1);
        Checks.answered(x, "a heap of sixty", x.cellar(0, 3), 60);
        x = Texts.cellar("banker 1");
        x.night();
        Checks.answered(x, "none, a stone held", x.cellar(0, 3), 0);
    }

    @Edge(promise = 6, says = "STONES of a cellar are in its HEAPS, and HELD.")
    static void stonesThatAreHeldCount() {
        StewardHeaps x = Texts.cellar("banker 1 1");
        x.night();
        Checks.answered(x, "heaps", x.cellar(0, 1), 0);
        Checks.answered(x, "stones", x.cellar(0, 2), 2);
        Checks.answered(x, "greatest", x.cellar(0, 3), 0);
        Checks.answered(x, "held", x.cellar(0, 4), 2);
    }

    @Edge(promise = 6, says = "At first nobody HOLDS any.")
    static void nothingIsHeldAtFirst() {
        StewardHeaps x = Texts.of(Texts.FOUR);
        for (int c = 0; c < 4; c++) {
            Checks.answered(x, "held", x.cellar(c, 4), 0);
            Checks.answered(x, "held behind no night", x.held(c, 0), 0);
        }
        x.night();
        Texts.tell(x, Texts.FOUR);
        Checks.answered(x, "held, of a new store", x.cellar(1, 4), 0);
    }

    @Edge(promise = 6, says = "NONE: 1")
    static void cellarOfNone() {
        Refusals.ofNoCellar("cellar(c, 0)", -1, (x, c) -> x.cellar(c, 0));
        Refusals.ofNoCellar("cellar(c, 4)", -1, (x, c) -> x.cellar(c, 4));
        Refusals.allRefused(Texts.of(Texts.FOUR), "cellar(0, what)", -1, 1, (x, what) -> x.cellar(0, what),
                -1, 5, Integer.MIN_VALUE, Integer.MAX_VALUE);
    }

    @Edge(promise = 7, says = "HEAPS of a cellar are numbered from the greatest on, from 0.")
    static void heapsFromTheGreatestOn() {
        StewardHeaps x = Texts.heaps("giver", 1, 5, 30, 2);
        Checks.answered(x, "heap(0, 0)", x.heap(0, 0), 30);
        Checks.answered(x, "heap(0, 3)", x.heap(0, 3), 1);
        x = Texts.sixtyHeaps("giver");
        Checks.answered(x, "heap(0, 59)", x.heap(0, 59), 1);
    }

    @Edge(promise = 7, says = "NONE: 1 (i, too)")
    static void heapOfNone() {
        Refusals.ofNoCellar("heap(c, 0)", -1, (x, c) -> x.heap(c, 0));
        Refusals.allRefused(Texts.of(Texts.FOUR), "heap(0, i)", -1, 1, (x, i) -> x.heap(0, i),
                -1, 2, 3, Integer.MIN_VALUE, Integer.MAX_VALUE);
        StewardHeaps x = Texts.of(Texts.FOUR);
        Checks.answered(x, "the last heap", x.heap(2, 2), 1);
        Refusals.allRefused(Texts.noHeaps("giver"), "heap(0, 0) without heaps", -1, 1, (y, i) -> y.heap(0, i), 0);
        Refusals.allRefused(Texts.sixtyHeaps("giver"), "heap(0, 60) of sixty", -1, 1, (y, i) -> y.heap(0, i), 60);
    }

    @Edge(promise = 8, says = "1 if a NIGHT changes nothing in a cellar, else 0")
    static void stillCellars() {
        StewardHeaps x = Texts.of("store hold 9 sleeps 0;cellar a steward 1;cellar b steward 2;cellar c steward 2 1;cellar d banker 1");
        Checks.answered(x, "a heap of one", x.still(0), 1);
        Checks.answered(x, "a heap of two", x.still(1), 0);
        Checks.answered(x, "heaps of two and one", x.still(2), 1);
        Checks.answered(x, "a stone that will be held", x.still(3), 0);
        x.night();
        Checks.answered(x, "no heap, a stone held", x.still(3), 1);
        Checks.due("held", x.cellar(3, 4), 1);
    }

    @Edge(promise = 8, says = "(Where there is no HEAP nothing is done; what is HELD stays.")
    static void nothingIsDoneWithoutHeaps() {
        for (String law : LAWS) {
            StewardHeaps x = Texts.noHeaps(law);
            Checks.answered(x, "still(0)", x.still(0), 1);
            Checks.answered(x, "heaps(0, 999)", x.heaps(0, 999), 0);
            Checks.answered(x, "night()", x.night(), 0);
            Checks.due("heaps", x.cellar(0, 1), 0);
        }
        StewardHeaps x = Texts.of("store hold 3 sleeps 0;cellar a banker 1 1");
        x.night();
        Checks.answered(x, "night()", x.night(), 0);
        Checks.due("held", x.cellar(0, 4), 2);
        Checks.answered(x, "held(0, 999)", x.held(0, 999), 2);
    }

    @Edge(promise = 8, says = "NONE: 1")
    static void stillOfNone() {
        Refusals.ofNoCellar("still(c)", -1, (x, c) -> x.still(c));
    }

    // ---- the laws, at their edges

    @Edge(promise = 9, says = "steward: one stone is taken of each HEAP, all those are laid as a new one.")
    static void stewardOfOnesAndOfOne() {
        behindANight(Texts.cellar("steward 1 1 1"), 3);
        behindANight(Texts.cellar("steward 1"), 1);
        behindANight(Texts.sixtyHeaps("steward"), 60);
        behindANight(Texts.heaps("steward", 30), 29, 1);
    }

    @Edge(promise = 12, says = "of them he lays new HEAPS of hold stones each, as many as he can, and HOLDS the rest")
    static void bankerAroundHold() {
        int[][] laid = {{1, 0, 1}, {2, 0, 2}, {3, 1, 0}, {4, 1, 1}, {5, 1, 2}, {6, 2, 0}, {7, 2, 1}, {8, 2, 2}};
        for (int[] due : laid) {
            StewardHeaps x = Texts.cellar("banker" + " 1".repeat(due[0]));
            Checks.answered(x, "heaps(0, 1) of " + due[0], x.heaps(0, 1), due[1]);
            Checks.answered(x, "greatest(0, 1) of " + due[0], x.greatest(0, 1), due[1] > 0 ? 3 : 0);
            Checks.answered(x, "held(0, 1) of " + due[0], x.held(0, 1), due[2]);
        }
        StewardHeaps x = Texts.sixtyHeaps("banker");
        Checks.answered(x, "heaps(0, 1) of sixty", x.heaps(0, 1), 20);
        Checks.answered(x, "held(0, 1) of sixty", x.held(0, 1), 0);
    }

    @Edge(promise = 12, says = "Banker: one is taken of each, to those he HOLDS")
    static void bankerAddsToWhatIsHeld() {
        StewardHeaps x = Texts.cellar("banker 2 2");
        Checks.answered(x, "held behind one night", x.held(0, 1), 2);
        Checks.answered(x, "held behind two", x.held(0, 2), 1);
        Checks.answered(x, "heaps behind two", x.heaps(0, 2), 1);
        Checks.answered(x, "greatest behind two", x.greatest(0, 2), 3);
        Checks.answered(x, "held behind three", x.held(0, 3), 2);
        Checks.answered(x, "held behind four", x.held(0, 4), 0);
    }

    @Edge(promise = 11, says = "Miser: one is taken of one HEAP of each height there is; all those are laid as a new one.")
    static void miserOfLikeHeaps() {
        behindANight(Texts.cellar("miser 1"), 1);
        behindANight(Texts.cellar("miser 1 1 1"), 1, 1, 1);
        behindANight(Texts.cellar("miser 3 3 3"), 3, 3, 2, 1);
        behindANight(Texts.cellar("miser 3 3 2 2 1 1"), 3, 3, 2, 2, 1, 1);
        behindANight(Texts.cellar("miser 9 6 6 4"), 8, 6, 5, 3, 3);
        behindANight(Texts.sixtyHeaps("miser"), Texts.ones(60));
    }

    @Edge(promise = 11, says = "one of it is laid on each other one, from the greatest on, as far as it goes; "
            + "what is left is laid as HEAPS of one stone each.")
    static void giverWithFewerAndWithMoreThanOthers() {
        behindANight(Texts.cellar("giver 2 2 2 2"), 3, 3, 2);
        behindANight(Texts.cellar("giver 3 2 2 1"), 3, 3, 2);
        behindANight(Texts.cellar("giver 4 2 2 1"), 3, 3, 2, 1);
        behindANight(Texts.cellar("giver 1 1 1"), 2, 1);
        behindANight(Texts.cellar("giver 1"), 1);
        behindANight(Texts.cellar("giver 3"), 1, 1, 1);
        behindANight(Texts.sixtyHeaps("giver"), giverOfSixty());
    }

    private static int[] giverOfSixty() {
        int[] heights = Texts.ones(59);
        heights[0] = 2;
        return heights;
    }

    // ---- promises 9 to 12

    @Edge(promise = 9, says = "(0 .. 999)")
    static void heapsUpToNight999() {
        StewardHeaps x = Texts.of(Texts.FOUR);
        Checks.answered(x, "heaps(0, 0)", x.heaps(0, 0), 2);
        int[] round = {2, 2, 3};
        for (int n = 990; n <= 999; n++) {
            Checks.answered(x, "heaps(0, " + n + ")", x.heaps(0, n), round[n % 3]);
        }
        x.night();
        Checks.answered(x, "behind a night, heaps(0, 0)", x.heaps(0, 0), 2);
        Checks.answered(x, "behind a night, heaps(0, 1)", x.heaps(0, 1), 3);
        Checks.answered(x, "behind a night, heaps(0, 999)", x.heaps(0, 999), 2);
        Checks.answered(x, "behind a night, heaps(0, 997)", x.heaps(0, 997), 3);
        x = Texts.heaps("giver", LONGEST);
        Naive.State longest = Naive.of(0, 11, 10, 8, 7, 6, 5, 4, 3, 2);
        for (int n = 70; n <= 999; n += n == 95 ? 889 : 1) {
            Checks.due("of the longest, heaps(0, " + n + ")", x.heaps(0, n), Naive.nights(longest, Naive.GIVER, 3, n).heaps().size());
        }
    }

    @Edge(promise = 9, says = "NONE: 1")
    static void heapsOfNone() {
        Refusals.ofNoCellar("heaps(c, 0)", -1, (x, c) -> x.heaps(c, 0));
    }

    @Edge(promise = 9, says = "NONE: 1; 2")
    static void heapsBehindTooFewOrTooMany() {
        Refusals.beyond("heaps(0, n)", -1, 0, 999, (x, n) -> x.heaps(0, n));
    }

    @Edge(promise = 10, says = "(0 none)")
    static void greatestOfNone() {
        StewardHeaps x = Texts.cellar("banker 1");
        Checks.answered(x, "greatest(0, 0)", x.greatest(0, 0), 1);
        Checks.answered(x, "greatest(0, 1)", x.greatest(0, 1), 0);
        Checks.answered(x, "greatest(0, 999)", x.greatest(0, 999), 0);
    }

    @Edge(promise = 10, says = "NONE: 1")
    static void greatestOfNoCellar() {
        Refusals.ofNoCellar("greatest(c, 0)", -1, (x, c) -> x.greatest(c, 0));
    }

    @Edge(promise = 10, says = "NONE: 1; 2")
    static void greatestBehindTooFewOrTooMany() {
        Refusals.beyond("greatest(0, n)", -1, 0, 999, (x, n) -> x.greatest(0, n));
    }

    @Edge(promise = 11, says = "0 there is none such")
    static void noSuchHeapIn() {
        StewardHeaps x = Texts.of(Texts.FOUR);
        Checks.answered(x, "the last", x.heapIn(0, 0, 1), 1);
        Checks.answered(x, "none behind it", x.heapIn(0, 0, 2), 0);
        Checks.answered(x, "none at 59", x.heapIn(0, 0, 59), 0);
        Checks.answered(x, "one more behind two nights", x.heapIn(0, 2, 2), 1);
        Checks.answered(x, "none behind it", x.heapIn(0, 2, 3), 0);
        x = Texts.sixtyHeaps("giver");
        Checks.answered(x, "the sixtieth", x.heapIn(0, 0, 59), 1);
        Checks.answered(x, "gone behind a night", x.heapIn(0, 1, 59), 0);
        x = Texts.cellar("banker 1");
        Checks.answered(x, "of no heaps", x.heapIn(0, 1, 0), 0);
    }

    @Edge(promise = 11, says = "NONE: 1")
    static void heapInOfNone() {
        Refusals.ofNoCellar("heapIn(c, 0, 0)", -1, (x, c) -> x.heapIn(c, 0, 0));
    }

    @Edge(promise = 11, says = "NONE: 1; 2 (n;")
    static void heapInBehindTooFewOrTooMany() {
        Refusals.beyond("heapIn(0, n, 0)", -1, 0, 999, (x, n) -> x.heapIn(0, n, 0));
    }

    @Edge(promise = 11, says = "2 (n; i 0 .. 59)")
    static void heapInOfTooLowOrTooHigh() {
        Refusals.beyond("heapIn(0, 0, i)", -1, 0, 59, (x, i) -> x.heapIn(0, 0, i));
        Refusals.beyond("heapIn(0, 999, i)", -1, 0, 59, (x, i) -> x.heapIn(0, 999, i));
    }

    @Edge(promise = 12, says = "NONE: 1")
    static void heldOfNone() {
        Refusals.ofNoCellar("held(c, 0)", -1, (x, c) -> x.held(c, 0));
    }

    @Edge(promise = 12, says = "NONE: 1; 2")
    static void heldBehindTooFewOrTooMany() {
        Refusals.beyond("held(1, n)", -1, 0, 999, (x, n) -> x.held(1, n));
    }

    // ---- promises 13 to 16

    private static void goesRound(StewardHeaps x, int settles, int round) {
        Checks.answered(x, "settles(0)", x.settles(0), settles);
        Checks.answered(x, "round(0)", x.round(0), round);
    }

    @Edge(promise = 13, says = "(0 NOW)")
    static void settledNow() {
        goesRound(Texts.cellar("steward 1"), 0, 1);
        goesRound(Texts.cellar("steward 3 1"), 0, 3);
        goesRound(Texts.noHeaps("banker"), 0, 1);
        StewardHeaps x = Texts.cellar("steward 6");
        goesRound(x, 3, 1);
        for (int n = 2; n >= 0; n--) {
            x.night();
            Checks.answered(x, "settles(0) from a night later on", x.settles(0), n);
        }
        x.night();
        Checks.answered(x, "settles(0) from then on", x.settles(0), 0);
    }

    @Edge(promise = 13, says = "HEAPS and what is HELD, both at once, come again, behind each NIGHT, in that order, first")
    static void heapsAndWhatIsHeldComeAgain() {
        StewardHeaps x = Texts.of("store hold 9 sleeps 0;cellar a banker 1 1 1 1 1 1 1 1");
        goesRound(x, 1, 1);
        x.night();
        goesRound(x, 0, 1);
        x = Texts.cellar("banker 1 1 1");
        goesRound(x, 1, 3);
    }

    @Edge(promise = 13, says = "-2 none of those behind 0 .. 400 NIGHTS comes again among them")
    static void longestNightsGoRound() {
        // No heaps of at most 60 stones need more than 91 nights, so all answer.
        StewardHeaps x = Texts.heaps("giver", LONGEST);
        Checks.answered(x, "settles(0)", x.settles(0), 80);
        x = Texts.heaps("steward", 30, 30);
        x.join(0, 0, 1);
        int[] due = Naive.settleAndRound(Naive.of(0, 60), Naive.STEWARD, 3);
        Checks.answered(x, "settles(0) of a heap of sixty", x.settles(0), due[0]);
    }

    @Edge(promise = 13, says = "NONE: 1")
    static void settlesOfNone() {
        Refusals.ofNoCellar("settles(c)", -1, (x, c) -> x.settles(c));
    }

    @Edge(promise = 14, says = "The least number of NIGHTS behind which they do then")
    static void leastRound() {
        goesRound(Texts.cellar("steward 2"), 0, 2);
        goesRound(Texts.cellar("steward 2 1"), 0, 1);
        goesRound(Texts.cellar("steward 4 3 2 1 1"), 0, 5);
        goesRound(Texts.cellar("steward 4 4 3 1"), 0, 5);
    }

    @Edge(promise = 14, says = "-2 likewise")
    static void longestRound() {
        StewardHeaps x = Texts.heaps("giver", LONGEST);
        Checks.answered(x, "round(0)", x.round(0), 11);
    }

    @Edge(promise = 14, says = "NONE: 1")
    static void roundOfNone() {
        Refusals.ofNoCellar("round(c)", -1, (x, c) -> x.round(c));
    }

    @Edge(promise = 15, says = "(0 .. 400)")
    static void fewestNowAndLate() {
        StewardHeaps x = Texts.cellar("steward 9");
        Checks.answered(x, "now", x.fewest(0), 0);
        x = Texts.cellar("banker 2");
        Checks.answered(x, "none behind two nights", x.fewest(0), 2);
        int[] heights = Texts.ones(54);
        heights[0] = 4;
        heights[1] = 2;
        heights[2] = 2;
        heights[3] = 2;
        x = Texts.heaps("giver", heights);
        Integer[] same = java.util.Arrays.stream(heights).boxed().toArray(Integer[]::new);
        int due = Naive.fewest(Naive.of(0, same), Naive.GIVER, 3);
        Checks.due("a late one", due > 40, true);
        Checks.answered(x, "late", x.fewest(0), due);
    }

    @Edge(promise = 15, says = "there are fewest HEAPS, first")
    static void firstOfTheFewest() {
        StewardHeaps x = Texts.of(Texts.FOUR);
        Checks.answered(x, "2, 2, 3 heaps, again and again", x.fewest(0), 0);
        x.night();
        Checks.answered(x, "2, 3, 2 heaps", x.fewest(0), 0);
        x.night();
        Checks.answered(x, "3, 2, 2 heaps", x.fewest(0), 1);
    }

    @Edge(promise = 15, says = "NONE: 1")
    static void fewestOfNone() {
        Refusals.ofNoCellar("fewest(c)", -1, (x, c) -> x.fewest(c));
    }

    @Edge(promise = 16, says = "(0 .. 400)")
    static void alikeNowAndLate() {
        StewardHeaps x = Texts.of("store hold 9 sleeps 0;cellar a steward 2 3;cellar b giver 3 2;"
                + "cellar c banker 16 10 5 4 4;cellar d steward 7 6 6 6 4 4 4");
        Checks.answered(x, "now", x.alike(0, 1), 0);
        Texts.add(x, 2, new int[] {4, 3, 3, 2, 1, 1, 1}, 0);
        Texts.add(x, 3, new int[] {4, 3, 3, 3, 2, 2}, 0);
        Checks.answered(x, "late", x.alike(2, 3), 160);
        Checks.answered(x, "late, the other way", x.alike(3, 2), 160);
    }

    @Edge(promise = 16, says = "first alike, each as high; -2")
    static void neverAlike() {
        StewardHeaps x = Texts.of("store hold 3 sleeps 0;cellar a steward 1;cellar b steward 2;cellar c banker 1;cellar d banker 2");
        Checks.answered(x, "heaps of unlike stones", x.alike(0, 1), -2);
        Checks.answered(x, "a heap and none", x.alike(0, 2), 0);
        x.night();
        Checks.answered(x, "a heap and none", x.alike(0, 2), -2);
        Checks.answered(x, "no heaps, though unlike stones are held", x.alike(2, 3), 1);
    }

    @Edge(promise = 16, says = "NONE: 1 (unlike)")
    static void alikeOfNoneAndOfOne() {
        Refusals.ofNoCellar("alike(c, 1)", -1, (x, c) -> x.alike(c, 1));
        Refusals.ofNoCellar("alike(1, c)", -1, (x, c) -> x.alike(1, c));
        Refusals.allRefused(Texts.of(Texts.FOUR), "alike(c, c)", -1, 1, (x, c) -> x.alike(c, c), 0, 1, 2, 3);
    }
}
