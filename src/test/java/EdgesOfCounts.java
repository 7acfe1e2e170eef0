/** Edges of promises 27 to 36 and 44 to 46: heaps counted, eaten, carried, levelled; steward and mouse. */
final class EdgesOfCounts {
    private EdgesOfCounts() {
    }

    private static StewardHeaps fullCellar() {
        return Texts.heaps("giver", 30, 16, 8, 4, 1, 1);
    }

    // ---- promises 27 to 29

    @Edge(promise = 27, says = "n stones (0 .. 60) can lie in HEAPS (1 of none)")
    static void waysOfNoneAndOfSixty() {
        StewardHeaps x = Texts.cellar("giver 3");
        Checks.answered(x, "ways(0)", x.ways(0), 1);
        Checks.answered(x, "ways(1)", x.ways(1), 1);
        Checks.answered(x, "ways(59)", x.ways(59), 831820);
        Checks.answered(x, "ways(60)", x.ways(60), 966467);
    }

    @Edge(promise = 27, says = "NONE: 1 (no STORE)")
    static void waysWithoutStore() {
        Refusals.withoutStore("ways(0)", -1, (x, n) -> x.ways(n));
    }

    @Edge(promise = 27, says = "NONE: 1 (no STORE); 2")
    static void waysOfTooFewOrTooMany() {
        Refusals.beyond("ways(n)", -1, 0, 60, (x, n) -> x.ways(n));
    }

    @Edge(promise = 28, says = "In how many in just k (0 .. 60)")
    static void waysByNoneAndBySixty() {
        StewardHeaps x = Texts.cellar("giver 3");
        Checks.answered(x, "waysBy(0, 0)", x.waysBy(0, 0), 1);
        Checks.answered(x, "waysBy(0, 1)", x.waysBy(0, 1), 0);
        Checks.answered(x, "waysBy(0, 60)", x.waysBy(0, 60), 0);
        Checks.answered(x, "waysBy(1, 0)", x.waysBy(1, 0), 0);
        Checks.answered(x, "waysBy(60, 0)", x.waysBy(60, 0), 0);
        Checks.answered(x, "waysBy(60, 1)", x.waysBy(60, 1), 1);
        Checks.answered(x, "waysBy(60, 2)", x.waysBy(60, 2), 30);
        Checks.answered(x, "waysBy(60, 59)", x.waysBy(60, 59), 1);
        Checks.answered(x, "waysBy(60, 60)", x.waysBy(60, 60), 1);
        Checks.answered(x, "waysBy(59, 60)", x.waysBy(59, 60), 0);
        Checks.answered(x, "waysBy(5, 2)", x.waysBy(5, 2), 2);
    }

    @Edge(promise = 28, says = "NONE: 1 (no STORE)")
    static void waysByWithoutStore() {
        Refusals.withoutStore("waysBy(0, 0)", -1, (x, n) -> x.waysBy(n, n));
    }

    @Edge(promise = 28, says = "NONE: 1 (no STORE); 2")
    static void waysByTooFewOrTooMany() {
        Refusals.beyond("waysBy(n, 0)", -1, 0, 60, (x, n) -> x.waysBy(n, 0));
        Refusals.beyond("waysBy(60, k)", -1, 0, 60, (x, k) -> x.waysBy(60, k));
    }

    @Edge(promise = 29, says = "In how many in HEAPS all unlike")
    static void waysUnlikeOfNoneAndOfSixty() {
        StewardHeaps x = Texts.cellar("giver 3");
        Checks.answered(x, "waysUnlike(0)", x.waysUnlike(0), 1);
        Checks.answered(x, "waysUnlike(1)", x.waysUnlike(1), 1);
        Checks.answered(x, "waysUnlike(2)", x.waysUnlike(2), 1);
        Checks.answered(x, "waysUnlike(3)", x.waysUnlike(3), 2);
        Checks.answered(x, "waysUnlike(60)", x.waysUnlike(60), 10880);
    }

    @Edge(promise = 29, says = "NONE: 1 (no STORE)")
    static void waysUnlikeWithoutStore() {
        Refusals.withoutStore("waysUnlike(0)", -1, (x, n) -> x.waysUnlike(n));
    }

    @Edge(promise = 29, says = "NONE: 1 (no STORE); 2")
    static void waysUnlikeOfTooFewOrTooMany() {
        Refusals.beyond("waysUnlike(n)", -1, 0, 60, (x, n) -> x.waysUnlike(n));
    }

    // ---- promises 30 to 32

    private static void eaten(StewardHeaps x, int wins, int of, int many) {
        Checks.answered(x, "eats(0)", x.eats(0), wins);
        Checks.answered(x, "eatsOf(0)", x.eatsOf(0), of);
        Checks.answered(x, "eatsMany(0)", x.eatsMany(0), many);
    }

    @Edge(promise = 30, says = "EATERS: two, by turns, each takes 1, 2 or 3 stones of one HEAP; who takes the last one of all has won.")
    static void eatenUpToThreeAtOnce() {
        eaten(Texts.cellar("giver 1"), 1, 0, 1);
        eaten(Texts.cellar("giver 3"), 1, 0, 3);
        eaten(Texts.cellar("giver 4"), 0, -2, -2);
        eaten(Texts.cellar("giver 5"), 1, 0, 1);
        eaten(Texts.cellar("giver 3 3"), 0, -2, -2);
        eaten(Texts.cellar("giver 4 3"), 1, 0, 1);
    }

    @Edge(promise = 30, says = "1 if who begins wins, both eating best, else 0 (without HEAPS, too).")
    static void eatenWithoutHeaps() {
        StewardHeaps x = Texts.noHeaps("giver");
        Checks.answered(x, "eats(0)", x.eats(0), 0);
        x = Texts.cellar("banker 1");
        x.night();
        Checks.answered(x, "eats(0), a stone held", x.eats(0), 0);
    }

    @Edge(promise = 30, says = "NONE: 1")
    static void eatsOfNone() {
        Refusals.ofNoCellar("eats(c)", -1, (x, c) -> x.eats(c));
    }

    @Edge(promise = 31, says = "The first HEAP of which he takes for that; -2 he doesn't win.")
    static void firstHeapToEat() {
        Checks.due("eatsOf(0) of none", Texts.noHeaps("giver").eatsOf(0), -2);
        Checks.due("eatsOf(0) of 4", Texts.cellar("giver 4").eatsOf(0), -2);
        Checks.due("eatsOf(0) of 8 3 1", Texts.cellar("giver 8 3 1").eatsOf(0), 0);
        Checks.due("eatsOf(0) of 2 2 1", Texts.cellar("giver 2 2 1").eatsOf(0), 2);
        StewardHeaps x = Texts.cellar("giver 3 3 1");
        Checks.answered(x, "eatsOf(0), though others serve, too", x.eatsOf(0), 0);
        int[] heights = new int[29];
        java.util.Arrays.fill(heights, 2);
        heights[28] = 1;
        x = Texts.heaps("giver", heights);
        Checks.answered(x, "eatsOf(0), the last heap", x.eatsOf(0), 28);
    }

    @Edge(promise = 31, says = "NONE: 1")
    static void eatsOfOfNone() {
        Refusals.ofNoCellar("eatsOf(c)", -1, (x, c) -> x.eatsOf(c));
    }

    @Edge(promise = 32, says = "The fewest he takes of it; -2 likewise.")
    static void fewestToEat() {
        Checks.due("eatsMany(0) of none", Texts.noHeaps("giver").eatsMany(0), -2);
        Checks.due("eatsMany(0) of 6 2", Texts.cellar("giver 6 2").eatsMany(0), -2);
        Checks.due("eatsMany(0) of 1", Texts.cellar("giver 1").eatsMany(0), 1);
        Checks.due("eatsMany(0) of 7", Texts.cellar("giver 7").eatsMany(0), 3);
        Checks.due("eatsMany(0) of 6", Texts.cellar("giver 6").eatsMany(0), 2);
        Checks.due("eatsMany(0) of 2 2 1, of the last", Texts.cellar("giver 2 2 1").eatsMany(0), 1);
        Checks.due("eatsMany(0) of 4 4 4 1", Texts.cellar("giver 4 4 4 1").eatsMany(0), 3);
    }

    @Edge(promise = 32, says = "NONE: 1")
    static void eatsManyOfNone() {
        Refusals.ofNoCellar("eatsMany(c)", -1, (x, c) -> x.eatsMany(c));
    }

    // ---- promises 33 to 36

    @Edge(promise = 33, says = "(0 of one HEAP, or none)")
    static void carryOfOneAndOfNone() {
        Checks.due("carry of none", Texts.noHeaps("giver").carry(0), 0);
        Checks.due("carry of one", Texts.cellar("giver 30").carry(0), 0);
        Checks.due("carry of two", Texts.cellar("giver 30 1").carry(0), 31);
        Checks.due("carry of sixty", Texts.sixtyHeaps("giver").carry(0), 60 * 6 - 4);
        StewardHeaps x = Texts.cellar("giver 3 2 1");
        Checks.answered(x, "carry of 3 2 1", x.carry(0), 9);
        Checks.heapsAre(x, 0, 3, 2, 1);
    }

    @Edge(promise = 33, says = "NONE: 1")
    static void carryOfNoCellar() {
        Refusals.ofNoCellar("carry(c)", -1, (x, c) -> x.carry(c));
    }

    @Edge(promise = 34, says = "no HEAP more, none less, till no two differ by more than one: the fewest.")
    static void levelAlreadyAndJustNot() {
        Checks.due("level of none", Texts.noHeaps("giver").level(0), 0);
        Checks.due("level of one", Texts.cellar("giver 30").level(0), 0);
        Checks.due("level of 4 4 3", Texts.cellar("giver 4 4 3").level(0), 0);
        Checks.due("level of 4 3 3", Texts.cellar("giver 4 3 3").level(0), 0);
        Checks.due("level of 4 3 2", Texts.cellar("giver 4 3 2").level(0), 1);
        Checks.due("level of 4 4 2", Texts.cellar("giver 4 4 2").level(0), 1);
        Checks.due("level of 9 2", Texts.cellar("giver 9 2").level(0), 3);
        Checks.due("level of 9 9 2", Texts.cellar("giver 9 9 2").level(0), 4);
        Checks.due("level of 30 10", Texts.cellar("giver 30 10").level(0), 10);
        StewardHeaps x = Texts.of("store hold 9 sleeps 0;cellar a banker 8 2");
        x.night();
        Checks.answered(x, "level, two held", x.level(0), 3);
    }

    @Edge(promise = 34, says = "NONE: 1")
    static void levelOfNone() {
        Refusals.ofNoCellar("level(c)", -1, (x, c) -> x.level(c));
    }

    @Edge(promise = 35, says = "The fewest HEAPS that have just so many stones (0 .. 60) together; -2 none have.")
    static void makesNoneAndAll() {
        StewardHeaps x = fullCellar();
        int[][] made = {{0, 0}, {1, 1}, {2, 2}, {3, -2}, {30, 1}, {59, 5}, {60, 6}, {58, 4}, {57, -2}, {14, 4}, {15, -2}};
        for (int[] pair : made) {
            Checks.answered(x, "makes(0, " + pair[0] + ")", x.makes(0, pair[0]), pair[1]);
        }
        x = Texts.noHeaps("giver");
        Checks.answered(x, "makes(0, 0) of none", x.makes(0, 0), 0);
        Checks.answered(x, "makes(0, 1) of none", x.makes(0, 1), -2);
        Checks.answered(x, "makes(0, 60) of none", x.makes(0, 60), -2);
        Checks.due("makes(0, 15), fewer with the least", Texts.cellar("giver 14 5 5 5 1").makes(0, 15), 2);
        Checks.due("makes(0, 10), fewer without", Texts.cellar("giver 5 5 4 3 3").makes(0, 10), 2);
        x = Texts.cellar("giver 4 3 3 2");
        Checks.answered(x, "makes(0, 6), the fewest", x.makes(0, 6), 2);
        x = Texts.cellar("banker 1");
        x.night();
        Checks.answered(x, "makes(0, 1), a stone held", x.makes(0, 1), -2);
        x = Texts.sixtyHeaps("giver");
        Checks.answered(x, "makes(0, 60) of sixty", x.makes(0, 60), 60);
    }

    @Edge(promise = 35, says = "NONE: 1")
    static void makesOfNone() {
        Refusals.ofNoCellar("makes(c, 0)", -1, (x, c) -> x.makes(c, 0));
    }

    @Edge(promise = 35, says = "NONE: 1; 2")
    static void makesTooFewOrTooMany() {
        Refusals.beyond("makes(0, k)", -1, 0, 60, (x, k) -> x.makes(0, k));
    }

    @Edge(promise = 36, says = "How many stones the lighter part has, HEAPS parted in two as evenly as can be.")
    static void halfOfNoneAndOfOne() {
        Checks.due("half of none", Texts.noHeaps("giver").half(0), 0);
        Checks.due("half of one", Texts.cellar("giver 30").half(0), 0);
        Checks.due("half of 5 5", Texts.cellar("giver 5 5").half(0), 5);
        Checks.due("half of 5 4", Texts.cellar("giver 5 4").half(0), 4);
        Checks.due("half of 9 2 1", Texts.cellar("giver 9 2 1").half(0), 3);
        Checks.due("half of sixty stones", fullCellar().half(0), 30);
        Checks.due("half of sixty heaps", Texts.sixtyHeaps("giver").half(0), 30);
        StewardHeaps x = Texts.of("store hold 9 sleeps 0;cellar a banker 4 4");
        x.night();
        Checks.answered(x, "half, two held", x.half(0), 3);
        x = Texts.of("store hold 9 sleeps 0;cellar a banker 7 3");
        x.night();
        x.night();
        Checks.answered(x, "half of 5 1, four held", x.half(0), 1);
    }

    @Edge(promise = 36, says = "NONE: 1")
    static void halfOfNoCellar() {
        Refusals.ofNoCellar("half(c)", -1, (x, c) -> x.half(c));
    }

    // ---- promises 44 to 46

    @Edge(promise = 44, says = "both come: 0 less cheese, 1; the steward alone: 0 less 1, 0; the mouse alone: 0, 4; neither: 1, 2.")
    static void eachPairOfStewardAndMouse() {
        StewardHeaps x = Texts.cellar("giver 3");
        for (int cheese = 0; cheese <= 9; cheese += 3) {
            Checks.answered(x, "both, the steward", x.comes(cheese, true, true, false), -cheese);
            Checks.answered(x, "both, the mouse", x.comes(cheese, true, true, true), 1);
            Checks.answered(x, "the steward alone, he", x.comes(cheese, true, false, false), -1);
            Checks.answered(x, "the steward alone, the mouse", x.comes(cheese, true, false, true), 0);
            Checks.answered(x, "the mouse alone, the steward", x.comes(cheese, false, true, false), 0);
            Checks.answered(x, "the mouse alone, it", x.comes(cheese, false, true, true), 4);
            Checks.answered(x, "neither, the steward", x.comes(cheese, false, false, false), 1);
            Checks.answered(x, "neither, the mouse", x.comes(cheese, false, false, true), 2);
        }
    }

    @Edge(promise = 44, says = "What the steward (or ofMouse, the mouse) has if each comes or stays, and cheese is so much (0 .. 9).")
    static void leastAndMostCheese() {
        StewardHeaps x = Texts.cellar("giver 3");
        Checks.answered(x, "no cheese", x.comes(0, true, true, false), 0);
        Checks.answered(x, "a cheese; -1 is no refusal", x.comes(1, true, true, false), -1);
        Checks.answered(x, "nine cheeses", x.comes(9, true, true, false), -9);
    }

    @Edge(promise = 44, says = "-100: 1 (no STORE)")
    static void comesWithoutStore() {
        Refusals.withoutStore("comes(0, true, true, true)", -100, (x, n) -> x.comes(n, true, true, true));
    }

    @Edge(promise = 44, says = "-100: 1 (no STORE); 2")
    static void comesForTooLittleOrTooMuch() {
        Refusals.beyond("comes(n, true, true, false)", -100, 0, 9, (x, n) -> x.comes(n, true, true, false));
        Refusals.beyond("comes(n, false, false, true)", -100, 0, 9, (x, n) -> x.comes(n, false, false, true));
    }

    @Edge(promise = 45, says = "REST: a pair by which neither could have more alone.")
    static void restsWithoutCheese() {
        StewardHeaps x = Texts.cellar("giver 3");
        Checks.answered(x, "rests(0)", x.rests(0), 2);
        for (int cheese = 1; cheese <= 9; cheese++) {
            Checks.answered(x, "rests(" + cheese + ")", x.rests(cheese), 1);
        }
    }

    @Edge(promise = 45, says = "NONE: 1 (no STORE)")
    static void restsWithoutStore() {
        Refusals.withoutStore("rests(0)", -1, (x, n) -> x.rests(n));
    }

    @Edge(promise = 45, says = "NONE: 1 (no STORE); 2")
    static void restsForTooLittleOrTooMuch() {
        Refusals.beyond("rests(n)", -1, 0, 9, (x, n) -> x.rests(n));
    }

    @Edge(promise = 46, says = "The first (staying ahead, the steward's first): 10 if the steward comes, and 1 if the mouse does; -2.")
    static void firstRest() {
        // There is always one, the mouse alone, and staying is ahead of both coming.
        StewardHeaps x = Texts.cellar("giver 3");
        for (int cheese = 0; cheese <= 9; cheese++) {
            Checks.answered(x, "rest(" + cheese + ")", x.rest(cheese), 1);
        }
    }

    @Edge(promise = 46, says = "NONE: likewise")
    static void restRefused() {
        Refusals.withoutStore("rest(0)", -1, (x, n) -> x.rest(n));
        Refusals.beyond("rest(n)", -1, 0, 9, (x, n) -> x.rest(n));
    }
}
