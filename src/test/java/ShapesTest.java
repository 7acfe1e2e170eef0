import java.util.List;

/** Promises 17 to 26: shapes, and from which heaps a steward's night led here. */
final class ShapesTest {
    private ShapesTest() {
    }

    static void run() {
        examples();
        pairs();
        manyOrders();
        sources();
        allOfFewStones();
    }

    private static void examples() {
        StewardHeaps x = Texts.cellar("banker 5 5 3 1");
        Checks.promise(17);
        int[] columns = {4, 3, 3, 2, 2, 0};
        for (int j = 0; j < columns.length; j++) {
            Checks.answered(x, "column(0, " + j + ")", x.column(0, j), columns[j]);
        }
        Checks.answered(x, "column(0, 59)", x.column(0, 59), 0);
        Checks.promise(18);
        Checks.answered(x, "square(0)", x.square(0), 3);
        Checks.promise(19);
        Checks.answered(x, "corners(0)", x.corners(0), 3);
        Checks.promise(20);
        Checks.answered(x, "rank(0)", x.rank(0), 1);
        Checks.promise(21);
        Checks.answered(x, "hook(0, 0, 0)", x.hook(0, 0, 0), 8);
        Checks.answered(x, "hook(0, 1, 2)", x.hook(0, 1, 2), 4);
        Checks.answered(x, "hook(0, 3, 0)", x.hook(0, 3, 0), 1);
        Checks.promise(20);
        x = Texts.cellar("banker 1 1 1 1");
        Checks.answered(x, "rank below 0", x.rank(0), -3);
    }

    private static void pairs() {
        StewardHeaps x = Texts.of("store hold 2 sleeps 0;cellar a giver 4 2 1;cellar b miser 3 2 1 1;"
                + "cellar c steward 4;cellar d steward 4 2 1 1");
        Checks.promise(23);
        Checks.answered(x, "common(0, 1)", x.common(0, 1), 6);
        Checks.answered(x, "common(1, 0)", x.common(1, 0), 6);
        Checks.answered(x, "common(0, 2)", x.common(0, 2), 4);
        Checks.answered(x, "common(0, 0)", x.common(0, 0), 7);
        Checks.promise(24);
        Checks.answered(x, "mirrors(0, 1)", x.mirrors(0, 1), 1);
        Checks.answered(x, "mirrors(1, 0)", x.mirrors(1, 0), 1);
        Checks.answered(x, "mirrors(0, 0)", x.mirrors(0, 0), 0);
        Checks.answered(x, "mirrors(2, 0)", x.mirrors(2, 0), 0);
        Checks.answered(x, "a part is not all", x.mirrors(0, 3), 0);
        Checks.answered(x, "its own", x.mirrors(3, 3), 1);
    }

    private static void manyOrders() {
        Checks.promise(22);
        StewardHeaps x = Texts.cellar("giver 8 7 5 4 3 2 1");
        Checks.due("the most orders of thirty stones", x.orders(0), Naive.orders(List.of(8, 7, 5, 4, 3, 2, 1)).longValueExact());
        Checks.due("more than an int has", x.orders(0) > Integer.MAX_VALUE, true);
        x = Texts.cellar("giver 30");
        Checks.answered(x, "one heap", x.orders(0), 1);
        x.add(0, 1);
        Checks.refused(x, "thirty-one stones", x.orders(0), -1, 3);
        x = Texts.of("store hold 9 sleeps 0;cellar a banker 30 1");
        x.night();
        Checks.answered(x, "stones held do not count", x.orders(0), 1);
        Checks.due("held", x.cellar(0, 4), 2);
    }

    private static void sources() {
        StewardHeaps x = Texts.cellar("miser 3 1");
        Checks.promise(25);
        Checks.answered(x, "sources(0)", x.sources(0), 2);
        x.add(0, 1);
        Checks.answered(x, "of like heaps one", x.sources(0), 1);
        x = Texts.cellar("giver 1 1 1");
        Checks.answered(x, "none", x.sources(0), 0);
        Checks.promise(26);
        Checks.refused(x, "source of none", x.source(0, 0, 0), -1, 1);
        x = Texts.cellar("banker 5 3 2");
        int[][] heights = {{4, 3, 1, 1, 1, 0}, {6, 3, 1, 0}, {6, 4, 0}};
        Checks.answered(x, "sources", x.sources(0), 3);
        for (int k = 0; k < heights.length; k++) {
            for (int i = 0; i < heights[k].length; i++) {
                Checks.answered(x, "source(0, " + k + ", " + i + ")", x.source(0, k, i), heights[k][i]);
            }
        }
    }

    private static void allOfFewStones() {
        for (int stones = 1; stones <= 9; stones++) {
            for (List<Integer> heaps : Naive.partitions(stones)) {
                if (heaps.size() <= 8) {
                    shapeAsNaive(heaps);
                }
            }
        }
    }

    private static void shapeAsNaive(List<Integer> heaps) {
        StringBuilder told = new StringBuilder("miser");
        for (int height : heaps) {
            told.append(" ").append(height);
        }
        StewardHeaps x = Texts.cellar(told.toString());
        Checks.promise(22);
        Checks.due(told + ", orders", x.orders(0), Naive.orders(heaps).longValueExact());
        Checks.promise(18);
        Checks.due(told + ", square", x.square(0), Naive.square(heaps));
        Checks.promise(24);
        Checks.due(told + ", mirrors", x.mirrors(0, 0), Naive.mirrors(heaps, heaps) ? 1 : 0);
        List<List<Integer>> sources = Naive.sources(heaps);
        Checks.promise(25);
        Checks.due(told + ", sources", x.sources(0), sources.size());
        Checks.promise(26);
        for (int k = 0; k < sources.size(); k++) {
            for (int i = 0; i < 12; i++) {
                int due = i < sources.get(k).size() ? sources.get(k).get(i) : 0;
                Checks.due(told + ", source " + k + ", " + i, x.source(0, k, i), due);
            }
        }
        Checks.promise(21);
        for (int i = 0; i < heaps.size(); i++) {
            for (int j = 0; j < heaps.get(i); j++) {
                Checks.due(told + ", hook " + i + ", " + j, x.hook(0, i, j), Naive.hook(heaps, i, j));
            }
        }
    }
}
