/** Promises 47 to 49: nights slept. */
final class ChanceTest {
    private ChanceTest() {
    }

    static void run() {
        likely();
        means();
        seeds();
    }

    private static void odds(StewardHeaps x, int c, int n, int many, long upper, long lower) {
        Checks.promise(47);
        String call = "odds(" + c + ", " + n + ", " + many + ", ";
        Checks.answered(x, call + "false)", x.odds(c, n, many, false), upper);
        Checks.answered(x, call + "true)", x.odds(c, n, many, true), lower);
    }

    private static void mean(StewardHeaps x, int c, int n, long upper, long lower) {
        Checks.promise(48);
        String call = "mean(" + c + ", " + n + ", ";
        Checks.answered(x, call + "false)", x.mean(c, n, false), upper);
        Checks.answered(x, call + "true)", x.mean(c, n, true), lower);
    }

    private static void likely() {
        // The steward's 3 1 has 2, 2, 3 heaps behind 0, 1, 2 nights, and 2 behind 3.
        StewardHeaps x = Texts.of(Texts.FOUR);
        odds(x, 0, 0, 2, 1, 1);
        odds(x, 0, 0, 3, 0, 1);
        odds(x, 0, 1, 3, 0, 1);
        odds(x, 0, 2, 3, 1, 4);
        odds(x, 0, 3, 3, 3, 8);
        odds(x, 0, 8, 0, 1, 1);
        odds(x, 0, 8, 60, 0, 1);
        x = Texts.of("store hold 3 sleeps 1;cellar a steward 3 1");
        odds(x, 0, 8, 1, 1, 1);
        // Behind 2 and 5 nights awake, and 8.
        long upper = 28L * 99 * 99 + 56L * 99 * 99 * 99 * 99 * 99 + 99L * 99 * 99 * 99 * 99 * 99 * 99 * 99;
        Checks.promise(47);
        long divisor = x.odds(0, 8, 3, true);
        Checks.due("upper by lower", x.odds(0, 8, 3, false) * (10000000000000000L / divisor), upper);
        x = Texts.of("store hold 3 sleeps 0;cellar a steward 3 1");
        odds(x, 0, 2, 3, 1, 1);
        x = Texts.of("store hold 3 sleeps 100;cellar a steward 3 1");
        odds(x, 0, 2, 3, 0, 1);
        x = Texts.of("store hold 3 sleeps 25;cellar a steward 3 1");
        x.night();
        odds(x, 0, 1, 3, 3, 4);
    }

    private static void means() {
        StewardHeaps x = Texts.of(Texts.FOUR);
        mean(x, 0, 0, 2, 1);
        mean(x, 0, 2, 9, 4);
        mean(x, 0, 3, 19, 8);
        x = Texts.of("store hold 3 sleeps 0;cellar a banker 1");
        mean(x, 0, 1, 0, 1);
        mean(x, 0, 8, 0, 1);
        x = Texts.of("store hold 9 sleeps 50;cellar a banker 1");
        mean(x, 0, 8, 1, 256);
        x = Texts.of("store hold 9 sleeps 1;cellar a giver 30 10");
        for (int i = 0; i < 2; i++) {
            x.add(0, 10);
        }
        for (int n = 0; n <= 8; n++) {
            Naive.State state = Naive.of(0, 30, 10, 10, 10);
            java.math.BigInteger upper = Naive.weigh(state, Naive.GIVER, 9, 1, n, -1);
            mean(x, 0, n, Naive.lowest(upper, n, false), Naive.lowest(upper, n, true));
        }
    }

    private static void seeds() {
        Checks.promise(49);
        StewardHeaps x = Texts.of("store hold 3 sleeps 50;cellar a giver 5");
        Checks.answered(x, "no night", x.drawn(0, 0, 0), 1);
        // 0 becomes 74: awake; 74 becomes 5,624: asleep.
        Checks.answered(x, "seed 0, one night", x.drawn(0, 0, 1), 5);
        Checks.answered(x, "seed 0, two nights", x.drawn(0, 0, 2), 5);
        // 65,536 becomes 65,536 again: 36, asleep each night.
        Checks.answered(x, "seed 65,536", x.drawn(0, 65536, 200), 1);
        x = Texts.of("store hold 3 sleeps 36;cellar a giver 5");
        Checks.answered(x, "36 isn't below 36", x.drawn(0, 65536, 1), 5);
        x = Texts.of("store hold 3 sleeps 37;cellar a giver 5");
        Checks.answered(x, "36 is below 37", x.drawn(0, 65536, 1), 1);
        for (int seed = 0; seed <= 65536; seed += 997) {
            x = Texts.of("store hold 3 sleeps 37;cellar a giver 5");
            for (int n = 0; n <= 200; n += 7) {
                int due = Naive.drawn(Naive.of(0, 5), Naive.GIVER, 3, 37, seed, n);
                Checks.due("drawn(0, " + seed + ", " + n + ")", x.drawn(0, seed, n), due);
            }
        }
        x = Texts.of("store hold 3 sleeps 100;cellar a giver 5");
        Checks.answered(x, "always asleep", x.drawn(0, 7, 200), 1);
        x = Texts.of("store hold 3 sleeps 0;cellar a giver 5");
        Checks.answered(x, "never asleep", x.drawn(0, 7, 200), x.heaps(0, 200));
    }
}
