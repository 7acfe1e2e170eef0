/** Promises 50 to 56: acts, undoing, images. */
final class ActsTest {
    private ActsTest() {
    }

    static void run() {
        nights();
        adds();
        takes();
        joins();
        undoes();
        images();
    }

    private static void heapsAre(StewardHeaps x, int c, int... heights) {
        Checks.due("how many heaps", x.cellar(c, 1), heights.length);
        for (int i = 0; i < heights.length; i++) {
            Checks.due("heap(" + c + ", " + i + ")", x.heap(c, i), heights[i]);
        }
    }

    private static void nights() {
        Checks.promise(50);
        StewardHeaps x = Texts.of(Texts.FOUR);
        Checks.answered(x, "night()", x.night(), 3);
        heapsAre(x, 0, 2, 2);
        heapsAre(x, 1, 3, 1);
        heapsAre(x, 2, 2, 2, 1);
        heapsAre(x, 3, 3, 2, 1);
        Checks.due("held", x.cellar(1, 4), 2);
        Checks.due("nights gone by", x.size(5), 1);
        Checks.answered(x, "night()", x.night(), 3);
        heapsAre(x, 1, 3, 2);
        Checks.answered(x, "night()", x.night(), 3);
        Checks.answered(x, "the banker's settled", x.night(), 1);
        x = Texts.of("store hold 9 sleeps 100;cellar a miser 1;cellar b giver 1");
        for (int n = 1; n <= 20; n++) {
            Checks.answered(x, "a night in which nothing changes", x.night(), 0);
            Checks.due("it goes by", x.size(5), n);
        }
        Checks.due("and can be undone", x.size(7), 16);
    }

    private static void adds() {
        Checks.promise(51);
        StewardHeaps x = Texts.cellar("banker 5 2");
        Checks.answered(x, "add(0, 3)", x.add(0, 3), 3);
        heapsAre(x, 0, 5, 3, 2);
        x.night();
        Checks.answered(x, "add(0, 30)", x.add(0, 30), 5);
        Checks.due("stones", x.cellar(0, 2), 40);
        Checks.refused(x, "add(0, 21)", x.add(0, 21), -1, 3);
        Checks.due("nothing was added", x.cellar(0, 2), 40);
        Checks.answered(x, "up to 60", x.add(0, 20), 6);
        Checks.refused(x, "add(0, 1)", x.add(0, 1), -1, 3);
        Checks.due("acts", x.size(7), 4);
        x = Texts.cellar("banker 20 20");
        x.night();
        Checks.due("held", x.cellar(0, 4), 2);
        Checks.refused(x, "held ones count", x.add(0, 21), -1, 3);
        Checks.answered(x, "add(0, 20)", x.add(0, 20), 3);
        x = Texts.cellar("steward 1 1 1 1 1 1 1 1");
        for (int i = 9; i <= 60; i++) {
            Checks.answered(x, "more than eight heaps", x.add(0, 1), i);
        }
        Checks.answered(x, "sixty at once", x.night(), 1);
        heapsAre(x, 0, 60);
        Checks.due("behind a night more", x.heaps(0, 1), 2);
        x = Texts.cellar("giver 30 10");
        x.add(0, 20);
        x.join(0, 0, 1);
        x.join(0, 0, 1);
        heapsAre(x, 0, 60);
        Checks.due("sixty of one", x.heaps(0, 1), 60);
        Checks.due("column(0, 59)", x.column(0, 59), 1);
        Checks.due("source(0, 0, 59)", x.source(0, 0, 59), 1);
        Checks.due("makes(0, 60)", x.makes(0, 60), 1);
    }

    private static void takes() {
        Checks.promise(52);
        StewardHeaps x = Texts.cellar("banker 5 5 5 1");
        Checks.answered(x, "of the first of like heaps", x.take(0, 0), 15);
        heapsAre(x, 0, 5, 5, 4, 1);
        Checks.answered(x, "of a heap of one", x.take(0, 3), 14);
        heapsAre(x, 0, 5, 5, 4);
        Checks.refused(x, "take(0, 3)", x.take(0, 3), -1, 1);
        x.night();
        Checks.due("held", x.cellar(0, 4), 0);
        x.night();
        Checks.due("held", x.cellar(0, 4), 1);
        Checks.answered(x, "held ones count", x.take(0, 0), 13);
        x = Texts.cellar("miser 1");
        Checks.answered(x, "the last", x.take(0, 0), 0);
        Checks.due("no heaps", x.cellar(0, 1), 0);
        Checks.refused(x, "take(0, 0)", x.take(0, 0), -1, 1);
        Checks.answered(x, "a night without heaps", x.night(), 0);
    }

    private static void joins() {
        Checks.promise(53);
        StewardHeaps x = Texts.cellar("giver 9 6 4 3");
        Checks.answered(x, "join(0, 1, 3)", x.join(0, 1, 3), 9);
        heapsAre(x, 0, 9, 9, 4);
        Checks.answered(x, "join(0, 2, 1)", x.join(0, 2, 1), 13);
        heapsAre(x, 0, 13, 9);
        Checks.refused(x, "a heap to itself", x.join(0, 1, 1), -1, 1);
        Checks.refused(x, "no such heap", x.join(0, 0, 2), -1, 1);
        Checks.refused(x, "no such heap", x.join(0, 2, 0), -1, 1);
        Checks.refused(x, "no such heap", x.join(0, -1, 0), -1, 1);
        Checks.refused(x, "no such heap", x.join(0, 0, -1), -1, 1);
        Checks.answered(x, "join(0, 0, 1)", x.join(0, 0, 1), 22);
        heapsAre(x, 0, 22);
    }

    private static void undoes() {
        Checks.promise(54);
        StewardHeaps x = Texts.of(Texts.FOUR);
        Checks.due("nothing to undo", x.undo(), false);
        Checks.due("trouble()", x.trouble(), 6);
        x.night();
        x.add(3, 7);
        x.take(0, 0);
        x.join(2, 0, 2);
        Checks.due("acts", x.size(7), 4);
        Checks.due("undo the join", x.undo(), true);
        Checks.due("trouble()", x.trouble(), 0);
        heapsAre(x, 2, 2, 2, 1);
        Checks.due("undo the take", x.undo(), true);
        heapsAre(x, 0, 2, 2);
        Checks.due("undo the add", x.undo(), true);
        heapsAre(x, 3, 3, 2, 1);
        Checks.due("nights gone by", x.size(5), 1);
        Checks.due("undo the night", x.undo(), true);
        Checks.due("no night gone by", x.size(5), 0);
        heapsAre(x, 0, 3, 1);
        heapsAre(x, 1, 4, 2);
        Checks.due("held", x.cellar(1, 4), 0);
        Checks.due("nothing more", x.undo(), false);
        x.add(9, 1);
        x.add(0, 31);
        x.take(0, 9);
        x.join(0, 0, 0);
        x.image();
        Checks.due("acts that were refused, and images, are none", x.undo(), false);
    }

    private static void images() {
        Checks.promise(55);
        StewardHeaps x = Texts.of(Texts.FOUR);
        Checks.answered(x, "image()", x.image(), 0);
        x.night();
        Checks.answered(x, "image()", x.image(), 1);
        x.add(0, 5);
        Checks.answered(x, "image()", x.image(), 2);
        Checks.refused(x, "image()", x.image(), -1, 3);
        Checks.due("size(8)", x.size(8), 3);
        Checks.promise(56);
        Checks.due("acts", x.size(7), 2);
        Checks.due("back(3)", x.back(3), false);
        Checks.due("trouble()", x.trouble(), 1);
        Checks.due("acts stay", x.size(7), 2);
        Checks.due("back(0)", x.back(0), true);
        Checks.due("trouble()", x.trouble(), 0);
        heapsAre(x, 0, 3, 1);
        heapsAre(x, 1, 4, 2);
        Checks.due("nights", x.size(5), 0);
        Checks.due("nothing can be undone", x.undo(), false);
        Checks.due("images stay", x.size(8), 3);
        Checks.due("back(2)", x.back(2), true);
        heapsAre(x, 0, 5, 2, 2);
        Checks.due("held", x.cellar(1, 4), 2);
        Checks.due("nights", x.size(5), 1);
        x.take(0, 0);
        Checks.due("an act behind it can be undone", x.undo(), true);
        heapsAre(x, 0, 5, 2, 2);
        Checks.due("back(1)", x.back(1), true);
        heapsAre(x, 0, 2, 2);
        Checks.due("back(-1)", x.back(-1), false);
        Texts.tell(x, Texts.FOUR);
        Checks.due("no images of an old store", x.back(0), false);
        Checks.promise(55);
        Checks.answered(x, "image()", x.image(), 0);
    }
}
