/** Promises 9 to 16: nights to come. */
final class NightsTest {
    private NightsTest() {
    }

    static void run() {
        laws();
        behind();
        rounds();
        fewestHeaps();
        alikeCellars();
    }

    /** Heaps behind each night, as a text of heights; what is held behind a slash. */
    private static void goes(String cellar, String... nights) {
        StewardHeaps x = Texts.cellar(cellar);
        for (int n = 0; n < nights.length; n++) {
            Checks.promise(11);
            StringBuilder told = new StringBuilder();
            for (int i = 0; i < 60 && x.heapIn(0, n, i) > 0; i++) {
                told.append(told.length() == 0 ? "" : " ").append(x.heapIn(0, n, i));
            }
            Checks.promise(12);
            told.append("/").append(x.held(0, n));
            Checks.due(cellar + " behind " + n + " nights is " + told, told.toString().equals(nights[n]), true);
            String heights = nights[n].substring(0, nights[n].indexOf('/'));
            String[] each = heights.isEmpty() ? new String[0] : heights.split(" ");
            Checks.promise(9);
            Checks.answered(x, "heaps(0, " + n + ")", x.heaps(0, n), each.length);
            Checks.promise(10);
            Checks.answered(x, "greatest(0, " + n + ")", x.greatest(0, n), each.length == 0 ? 0 : Integer.parseInt(each[0]));
        }
    }

    private static void laws() {
        goes("steward 1", "1/0", "1/0");
        goes("steward 5", "5/0", "4 1/0", "3 2/0", "2 2 1/0", "3 1 1/0", "3 2/0");
        goes("steward 1 1 1", "1 1 1/0", "3/0", "2 1/0", "2 1/0");
        goes("banker 1", "1/0", "/1", "/1");
        goes("banker 1 1 1", "1 1 1/0", "3/0", "2/1", "1/2", "3/0");
        goes("banker 2 1 1 1 1 1 1", "2 1 1 1 1 1 1/0", "3 3 1/1", "3 2 2/1", "3 2 1 1/1", "3 2 1/2");
        goes("miser 3 3 2", "3 3 2/0", "3 2 2 1/0", "3 2 2 1/0");
        goes("miser 1 1 1", "1 1 1/0", "1 1 1/0");
        goes("miser 4 4", "4 4/0", "4 3 1/0", "3 3 2/0");
        goes("giver 1", "1/0", "1/0");
        goes("giver 5", "5/0", "1 1 1 1 1/0", "2 1 1 1/0", "2 2 1/0", "3 2/0", "3 1 1/0", "2 2 1/0");
        goes("giver 2 2 2 2", "2 2 2 2/0", "3 3 2/0", "4 3 1/0", "4 2 1 1/0", "3 2 2 1/0");
    }

    private static void behind() {
        StewardHeaps x = Texts.of(Texts.FOUR);
        Checks.promise(9);
        Checks.answered(x, "heaps(0, 999)", x.heaps(0, 999), 2);
        Checks.answered(x, "heaps(0, 998)", x.heaps(0, 998), 3);
        Checks.answered(x, "heaps(1, 999)", x.heaps(1, 999), 3);
        Checks.promise(11);
        Checks.answered(x, "no such heap", x.heapIn(0, 0, 2), 0);
        Checks.answered(x, "no such heap", x.heapIn(0, 0, 59), 0);
        Checks.promise(12);
        Checks.answered(x, "held now", x.held(1, 0), 0);
        x.night();
        Checks.answered(x, "held now", x.held(1, 0), 2);
        Checks.answered(x, "held behind a night more", x.held(1, 1), 1);
        Checks.promise(10);
        Checks.answered(x, "from now on", x.greatest(1, 0), 3);
    }

    private static void rounds(String text, int settles, int round) {
        StewardHeaps x = Texts.of(text);
        Checks.promise(13);
        Checks.answered(x, text + ", settles(0)", x.settles(0), settles);
        Checks.promise(14);
        Checks.answered(x, text + ", round(0)", x.round(0), round);
    }

    private static void rounds() {
        String store = "store hold 3 sleeps 0;cellar a ";
        rounds(store + "steward 3 1", 0, 3);
        rounds(store + "steward 3 2 1", 0, 1);
        rounds(store + "steward 6", 3, 1);
        rounds(store + "banker 4 2", 3, 1);
        // Heaps alone come again at once: what is held goes on.
        rounds("store hold 9 sleeps 0;cellar a banker 1 1 1 1 1 1 1 1", 1, 1);
        rounds(store + "miser 1 1 1", 0, 1);
        longRounds();
    }

    /** Every state of few stones, and laws whose rounds last long, against a map of all states met. */
    private static void longRounds() {
        for (int law = 0; law < 4; law++) {
            for (int stones = 1; stones <= 12; stones++) {
                for (java.util.List<Integer> heaps : Naive.partitions(stones)) {
                    if (heaps.size() <= 8) {
                        roundsAsNaive(law, heaps, 2 + stones % 8);
                    }
                }
            }
            for (int stones = 13; stones <= 40; stones++) {
                int rest = Math.max(0, stones - 30);
                roundsAsNaive(law, Naive.of(0, stones - rest, rest).heaps(), 2 + stones % 8);
            }
        }
    }

    private static void roundsAsNaive(int law, java.util.List<Integer> heaps, int hold) {
        String[] laws = {"steward", "banker", "miser", "giver"};
        StringBuilder text = new StringBuilder("store hold " + hold + " sleeps 0;cellar a " + laws[law]);
        for (int height : heaps) {
            text.append(" ").append(height);
        }
        Naive.State state = new Naive.State(heaps, 0);
        int[] due = Naive.settleAndRound(state, law, hold);
        rounds(text.toString(), due[0], due[1]);
        StewardHeaps x = Texts.of(text.toString());
        Checks.promise(15);
        Checks.due(text + ", fewest(0)", x.fewest(0), Naive.fewest(state, law, hold));
        Checks.promise(9);
        Checks.due(text + ", heaps(0, 137)", x.heaps(0, 137), Naive.nights(state, law, hold, 137).heaps().size());
    }

    private static void fewestHeaps() {
        Checks.promise(15);
        StewardHeaps x = Texts.of(Texts.FOUR);
        Checks.answered(x, "now, though later as few", x.fewest(0), 0);
        Checks.answered(x, "now", x.fewest(1), 0);
        x = Texts.cellar("steward 1 1 1");
        Checks.answered(x, "behind one", x.fewest(0), 1);
        x = Texts.cellar("banker 2");
        Checks.answered(x, "no heaps", x.fewest(0), 2);
    }

    private static void alikeCellars() {
        Checks.promise(16);
        StewardHeaps x = Texts.of(Texts.FOUR);
        Checks.answered(x, "never", x.alike(0, 1), -2);
        Checks.answered(x, "behind three", x.alike(1, 3), 3);
        Checks.answered(x, "the other way", x.alike(3, 1), 3);
        Checks.refused(x, "a cellar and itself", x.alike(2, 2), -1, 1);
        x = Texts.of("store hold 3 sleeps 0;cellar a steward 2 3;cellar b giver 3 2;cellar c banker 1;cellar d banker 2");
        Checks.answered(x, "now", x.alike(0, 1), 0);
        Checks.answered(x, "no heaps, though unlike stones are held", x.alike(2, 3), 2);
        x.night();
        Checks.answered(x, "from now on", x.alike(2, 3), 1);
    }
}
