/** Edges of promises 17 to 26: shapes, and from which heaps a steward's night led here. */
final class EdgesOfShapes {
    private EdgesOfShapes() {
    }

    /** A cellar with one heap of sixty stones. */
    private static StewardHeaps heapOfSixty(String law) {
        StewardHeaps x = Texts.heaps(law, 30, 30);
        x.join(0, 0, 1);
        return x;
    }

    // ---- promises 17 to 21

    @Edge(promise = 17, says = "column j (0 the first): how many HEAPS are higher than j")
    static void firstAndLastColumn() {
        StewardHeaps x = Texts.cellar("giver 5 5 3 1");
        Checks.answered(x, "column(0, 0)", x.column(0, 0), 4);
        Checks.answered(x, "column(0, 2)", x.column(0, 2), 3);
        Checks.answered(x, "column(0, 3)", x.column(0, 3), 2);
        Checks.answered(x, "column(0, 4)", x.column(0, 4), 2);
    }

    @Edge(promise = 17, says = "(0 .. 59; 0 beyond)")
    static void columnsUpTo59() {
        StewardHeaps x = Texts.cellar("giver 5 5 3 1");
        Checks.answered(x, "column(0, 5), beyond the shape", x.column(0, 5), 0);
        Checks.answered(x, "column(0, 59), beyond the shape", x.column(0, 59), 0);
        x = heapOfSixty("giver");
        Checks.answered(x, "column(0, 59)", x.column(0, 59), 1);
        x = Texts.sixtyHeaps("giver");
        Checks.answered(x, "column(0, 0) of sixty", x.column(0, 0), 60);
        Checks.answered(x, "column(0, 1) of sixty", x.column(0, 1), 0);
        x = Texts.noHeaps("giver");
        Checks.answered(x, "column(0, 0) of none", x.column(0, 0), 0);
    }

    @Edge(promise = 17, says = "NONE: 1")
    static void columnOfNone() {
        Refusals.ofNoCellar("column(c, 0)", -1, (x, c) -> x.column(c, 0));
    }

    @Edge(promise = 17, says = "NONE: 1; 2")
    static void columnTooLowOrTooHigh() {
        Refusals.beyond("column(0, j)", -1, 0, 59, (x, j) -> x.column(0, j));
    }

    @Edge(promise = 18, says = "SQUARE: the longest side of a square in it (as many rows, each that long at least)")
    static void squareJustWithinAndJustNot() {
        Checks.due("square of 3 1", Texts.cellar("giver 3 1").square(0), 1);
        Checks.due("square of 3 2", Texts.cellar("giver 3 2").square(0), 2);
        Checks.due("square of 2 2 2", Texts.cellar("giver 2 2 2").square(0), 2);
        Checks.due("square of none", Texts.noHeaps("giver").square(0), 0);
        Checks.due("square of one high heap", heapOfSixty("giver").square(0), 1);
        Checks.due("square of sixty low heaps", Texts.sixtyHeaps("giver").square(0), 1);
        Checks.due("square of 3 3 3", Texts.cellar("giver 3 3 3").square(0), 3);
        Checks.due("square of 3 3 2", Texts.cellar("giver 3 3 2").square(0), 2);
        Checks.due("square of 9 9", Texts.cellar("giver 9 9").square(0), 2);
        Checks.due("square of 7 7 7 7 7 7 7", Texts.heaps("giver", 7, 7, 7, 7, 7, 7, 7).square(0), 7);
    }

    @Edge(promise = 18, says = "NONE: 1")
    static void squareOfNone() {
        Refusals.ofNoCellar("square(c)", -1, (x, c) -> x.square(c));
    }

    @Edge(promise = 19, says = "CORNERS: how many unlike heights there are.")
    static void cornersOfNoneAndOfLikeHeaps() {
        Checks.due("corners of none", Texts.noHeaps("giver").corners(0), 0);
        Checks.due("corners of one", Texts.cellar("giver 4").corners(0), 1);
        Checks.due("corners of sixty like heaps", Texts.sixtyHeaps("giver").corners(0), 1);
        Checks.due("corners of all unlike heaps", Texts.heaps("giver", 10, 9, 8, 7, 6, 5, 4, 3, 2, 1).corners(0), 10);
        Checks.due("corners of pairs", Texts.cellar("giver 4 4 2 2 1 1").corners(0), 3);
    }

    @Edge(promise = 19, says = "NONE: 1")
    static void cornersOfNoCellar() {
        Refusals.ofNoCellar("corners(c)", -1, (x, c) -> x.corners(c));
    }

    @Edge(promise = 20, says = "The height of the greatest HEAP less how many there are.")
    static void rankOfNoneAndBelowNought() {
        Checks.due("rank of none", Texts.noHeaps("giver").rank(0), 0);
        Checks.due("rank of sixty heaps", Texts.sixtyHeaps("giver").rank(0), -59);
        Checks.due("rank of a heap of sixty", heapOfSixty("giver").rank(0), 59);
        StewardHeaps x = Texts.cellar("giver 1 1");
        Checks.answered(x, "rank of -1 is no refusal", x.rank(0), -1);
    }

    @Edge(promise = 20, says = "-1000: 1")
    static void rankOfNoCellar() {
        Refusals.ofNoCellar("rank(c)", -1000, (x, c) -> x.rank(c));
    }

    @Edge(promise = 21, says = "has as HOOK all to its right in its row, all below it in its column, and itself")
    static void hooksAtTheRim() {
        StewardHeaps x = Texts.cellar("giver 5 5 3 1");
        Checks.answered(x, "hook(0, 0, 0)", x.hook(0, 0, 0), 8);
        Checks.answered(x, "hook(0, 0, 4)", x.hook(0, 0, 4), 2);
        Checks.answered(x, "hook(0, 1, 4)", x.hook(0, 1, 4), 1);
        Checks.answered(x, "hook(0, 3, 0)", x.hook(0, 3, 0), 1);
        Checks.answered(x, "hook(0, 2, 0)", x.hook(0, 2, 0), 4);
        x = heapOfSixty("giver");
        Checks.answered(x, "hook(0, 0, 0) of a heap of sixty", x.hook(0, 0, 0), 60);
        Checks.answered(x, "hook(0, 0, 59)", x.hook(0, 0, 59), 1);
        x = Texts.sixtyHeaps("giver");
        Checks.answered(x, "hook(0, 0, 0) of sixty heaps", x.hook(0, 0, 0), 60);
        Checks.answered(x, "hook(0, 59, 0)", x.hook(0, 59, 0), 1);
    }

    @Edge(promise = 21, says = "NONE: 1 (no such stone, too)")
    static void hookOfNoSuchStone() {
        Refusals.ofNoCellar("hook(c, 0, 0)", -1, (x, c) -> x.hook(c, 0, 0));
        Refusals.allRefused(Texts.of(Texts.FOUR), "hook(3, i, 0)", -1, 1, (x, i) -> x.hook(3, i, 0),
                -1, 3, Integer.MIN_VALUE, Integer.MAX_VALUE);
        Refusals.allRefused(Texts.of(Texts.FOUR), "hook(3, 1, j)", -1, 1, (x, j) -> x.hook(3, 1, j),
                -1, 2, Integer.MIN_VALUE, Integer.MAX_VALUE);
        Refusals.allRefused(Texts.noHeaps("giver"), "hook(0, 0, 0) of none", -1, 1, (x, j) -> x.hook(0, 0, j), 0);
    }

    // ---- promises 22 to 24

    @Edge(promise = 22, says = "(1 without HEAPS)")
    static void ordersWithoutHeaps() {
        StewardHeaps x = Texts.noHeaps("giver");
        Checks.answered(x, "orders(0)", x.orders(0), 1);
    }

    @Edge(promise = 22, says = "-1: 1")
    static void ordersOfNone() {
        Refusals.ofNoCellar("orders(c)", -1, (x, c) -> x.orders(c));
    }

    @Edge(promise = 22, says = "3 (more than 30 stones in HEAPS)")
    static void ordersOfThirtyAndOfMore() {
        StewardHeaps x = Texts.cellar("giver 29");
        x.add(0, 1);
        Checks.answered(x, "orders of 29 1", x.orders(0), 29);
        x.add(0, 1);
        Checks.refused(x, "orders of 31 stones", x.orders(0), -1, 3);
        x.take(0, 0);
        Checks.answered(x, "orders of 28 1 1", x.orders(0), 406);
        x = Texts.of("store hold 9 sleeps 0;cellar a banker 30 1");
        Checks.refused(x, "orders of 31 stones", x.orders(0), -1, 3);
        x.night();
        Checks.due("stones", x.cellar(0, 2), 31);
        Checks.answered(x, "orders of 29 stones and two held", x.orders(0), 1);
        x = Texts.sixtyHeaps("giver");
        Checks.refused(x, "orders of 60 stones", x.orders(0), -1, 3);
    }

    @Edge(promise = 22, says = "so that none is ever lower than the next one.")
    static void mostOrders() {
        StewardHeaps x = Texts.cellar("giver 8 7 5 4 3 2 1");
        Checks.answered(x, "orders", x.orders(0), Naive.orders(java.util.List.of(8, 7, 5, 4, 3, 2, 1)).longValueExact());
        x = Texts.cellar("giver 1 1 1 1 1 1 1 1");
        Checks.answered(x, "orders of like heaps", x.orders(0), 1);
        x = Texts.cellar("giver 2 2");
        Checks.answered(x, "orders of two like heaps", x.orders(0), 2);
    }

    @Edge(promise = 23, says = "(its own, too)")
    static void commonToItself() {
        StewardHeaps x = Texts.of(Texts.FOUR);
        int[] stones = {4, 6, 5, 6};
        for (int c = 0; c < 4; c++) {
            Checks.answered(x, "common(" + c + ", " + c + ")", x.common(c, c), stones[c]);
        }
        Checks.due("common to itself, of sixty", Texts.sixtyHeaps("giver").common(0, 0), 60);
        x = Texts.of("store hold 3 sleeps 0;cellar a giver 1;cellar b banker 1 1 1");
        x.take(0, 0);
        Checks.answered(x, "common(0, 0) of none", x.common(0, 0), 0);
        Checks.answered(x, "common(0, 1) of none", x.common(0, 1), 0);
        Checks.answered(x, "common(1, 0) of none", x.common(1, 0), 0);
    }

    @Edge(promise = 23, says = "NONE: 1")
    static void commonOfNone() {
        Refusals.ofNoCellar("common(c, 0)", -1, (x, c) -> x.common(c, 0));
        Refusals.ofNoCellar("common(0, c)", -1, (x, c) -> x.common(0, c));
    }

    @Edge(promise = 24, says = "1 if columns of the one are HEAPS of the other (or its own), all of them, else 0.")
    static void mirrorsOfItselfAndOfAPart() {
        StewardHeaps x = Texts.of("store hold 3 sleeps 0;cellar a giver 4 2 1;cellar b giver 3 2 1 1;cellar c giver 3 2 1;cellar d giver 3 2 1 1 1");
        Checks.answered(x, "mirrors(0, 0)", x.mirrors(0, 0), 0);
        Checks.answered(x, "mirrors(0, 1)", x.mirrors(0, 1), 1);
        Checks.answered(x, "mirrors(1, 0)", x.mirrors(1, 0), 1);
        Checks.answered(x, "mirrors(2, 2)", x.mirrors(2, 2), 1);
        Checks.answered(x, "the last column missing", x.mirrors(0, 2), 0);
        Checks.answered(x, "a heap more", x.mirrors(0, 3), 0);
        Checks.answered(x, "the other way", x.mirrors(2, 0), 0);
        Checks.answered(x, "the other way", x.mirrors(3, 0), 0);
        x = Texts.of("store hold 3 sleeps 0;cellar a giver 1;cellar b giver 1");
        x.take(0, 0);
        Checks.answered(x, "none and one", x.mirrors(0, 1), 0);
        Checks.answered(x, "one and none", x.mirrors(1, 0), 0);
        Checks.answered(x, "none and none", x.mirrors(0, 0), 1);
        x = Texts.heaps("giver", Texts.ones(30));
        Checks.answered(x, "thirty of one are no heap of thirty", x.mirrors(0, 0), 0);
    }

    @Edge(promise = 24, says = "NONE: 1")
    static void mirrorsOfNone() {
        Refusals.ofNoCellar("mirrors(c, 0)", -1, (x, c) -> x.mirrors(c, 0));
        Refusals.ofNoCellar("mirrors(0, c)", -1, (x, c) -> x.mirrors(0, c));
    }

    // ---- promises 25 and 26

    @Edge(promise = 25, says = "(To no HEAPS it leads from none: one SOURCE, without HEAPS.)")
    static void sourceOfNoHeaps() {
        for (String law : new String[] {"steward", "banker", "miser", "giver"}) {
            StewardHeaps x = Texts.noHeaps(law);
            Checks.answered(x, "sources(0)", x.sources(0), 1);
            Checks.answered(x, "source(0, 0, 0)", x.source(0, 0, 0), 0);
            Checks.answered(x, "source(0, 0, 59)", x.source(0, 0, 59), 0);
            Checks.refused(x, "source(0, 1, 0)", x.source(0, 1, 0), -1, 1);
        }
        StewardHeaps x = Texts.cellar("banker 1");
        x.night();
        Checks.answered(x, "sources(0), a stone held", x.sources(0), 1);
    }

    @Edge(promise = 25, says = "all HEAPS from which a steward's NIGHT leads to just these, whatever LAW is told")
    static void sourcesWhereANewHeapJustCanBe() {
        Checks.due("sources of 1", Texts.cellar("miser 1").sources(0), 1);
        Checks.due("sources of 1 1", Texts.cellar("miser 1 1").sources(0), 1);
        Checks.due("sources of 1 1 1", Texts.cellar("miser 1 1 1").sources(0), 0);
        Checks.due("sources of 2 1 1", Texts.cellar("miser 2 1 1").sources(0), 1);
        Checks.due("sources of 2 2 1", Texts.cellar("giver 2 2 1").sources(0), 1);
        Checks.due("sources of 2 1", Texts.cellar("banker 2 1").sources(0), 2);
        Checks.due("sources of 5 3 2", Texts.cellar("banker 5 3 2").sources(0), 3);
        Checks.due("sources of 5 3 1", Texts.cellar("banker 5 3 1").sources(0), 2);
        Checks.due("sources of sixty heaps", Texts.sixtyHeaps("steward").sources(0), 0);
    }

    @Edge(promise = 25, says = "NONE: 1")
    static void sourcesOfNone() {
        Refusals.ofNoCellar("sources(c)", -1, (x, c) -> x.sources(c));
    }

    @Edge(promise = 26, says = "numbered by the height of the HEAP that is new by it, the greatest ahead.")
    static void sourcesByTheNewHeap() {
        StewardHeaps x = Texts.cellar("banker 5 3 2");
        int[][] heights = {{4, 3, 1, 1, 1}, {6, 3, 1}, {6, 4}};
        for (int k = 0; k < heights.length; k++) {
            for (int i = 0; i < heights[k].length; i++) {
                Checks.answered(x, "source(0, " + k + ", " + i + ")", x.source(0, k, i), heights[k][i]);
            }
        }
    }

    @Edge(promise = 26, says = "0 there is none such")
    static void noSuchHeapOfASource() {
        StewardHeaps x = Texts.cellar("banker 5 3 2");
        Checks.answered(x, "source(0, 0, 4)", x.source(0, 0, 4), 1);
        Checks.answered(x, "source(0, 0, 5)", x.source(0, 0, 5), 0);
        Checks.answered(x, "source(0, 1, 2)", x.source(0, 1, 2), 1);
        Checks.answered(x, "source(0, 1, 3)", x.source(0, 1, 3), 0);
        Checks.answered(x, "source(0, 2, 2)", x.source(0, 2, 2), 0);
        Checks.answered(x, "source(0, 2, 59)", x.source(0, 2, 59), 0);
        x = heapOfSixty("giver");
        Checks.answered(x, "sources of a heap of sixty", x.sources(0), 1);
        Checks.answered(x, "source(0, 0, 0)", x.source(0, 0, 0), 1);
        Checks.answered(x, "source(0, 0, 59)", x.source(0, 0, 59), 1);
    }

    @Edge(promise = 26, says = "NONE: 1 (k, too)")
    static void sourceOfNone() {
        Refusals.ofNoCellar("source(c, 0, 0)", -1, (x, c) -> x.source(c, 0, 0));
        Refusals.allRefused(Texts.of(Texts.FOUR), "source(0, k, 0)", -1, 1, (x, k) -> x.source(0, k, 0),
                -1, 2, Integer.MIN_VALUE, Integer.MAX_VALUE);
        Refusals.allRefused(Texts.cellar("miser 1 1 1"), "source(0, 0, 0) of no sources", -1, 1, (x, k) -> x.source(0, k, 0), 0, 1);
    }

    @Edge(promise = 26, says = "2 (i 0 .. 59)")
    static void sourceTooLowOrTooHigh() {
        Refusals.beyond("source(0, 0, i)", -1, 0, 59, (x, i) -> x.source(0, 0, i));
    }
}
