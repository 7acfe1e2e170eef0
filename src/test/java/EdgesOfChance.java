/** Edges of promises 47 to 49: nights slept. */
final class EdgesOfChance {
    private EdgesOfChance() {
    }

    /** A cellar with 2, 2 and 3 heaps by turns. */
    private static StewardHeaps sleeping(int sleeps) {
        return Texts.of("store hold 3 sleeps " + sleeps + ";cellar a steward 3 1");
    }

    private static void odds(StewardHeaps x, int n, int many, long upper, long lower) {
        Checks.answered(x, "odds(0, " + n + ", " + many + ", false)", x.odds(0, n, many, false), upper);
        Checks.answered(x, "odds(0, " + n + ", " + many + ", true)", x.odds(0, n, many, true), lower);
    }

    private static void mean(StewardHeaps x, int n, long upper, long lower) {
        Checks.answered(x, "mean(0, " + n + ", false)", x.mean(0, n, false), upper);
        Checks.answered(x, "mean(0, " + n + ", true)", x.mean(0, n, true), lower);
    }

    // ---- promise 47

    @Edge(promise = 47, says = "How likely there are so many HEAPS (0 .. 60) or more")
    static void fromNoHeapsToSixty() {
        StewardHeaps x = sleeping(50);
        odds(x, 2, 0, 1, 1);
        odds(x, 2, 2, 1, 1);
        odds(x, 2, 3, 1, 4);
        odds(x, 2, 4, 0, 1);
        odds(x, 2, 60, 0, 1);
        x = Texts.sixtyHeaps("steward");
        odds(x, 0, 60, 1, 1);
        odds(x, 1, 60, 1, 2);
        odds(x, 1, 2, 1, 2);
        x = Texts.noHeaps("steward");
        odds(x, 8, 0, 1, 1);
        odds(x, 8, 1, 0, 1);
    }

    @Edge(promise = 47, says = "behind n NIGHTS (0 .. 8) with SLEEP")
    static void fromNoNightToEight() {
        StewardHeaps x = sleeping(50);
        odds(x, 0, 2, 1, 1);
        odds(x, 0, 3, 0, 1);
        odds(x, 1, 3, 0, 1);
        // Behind 2, 5 and 8 nights awake of 8: 28 + 56 + 1 of 256.
        odds(x, 8, 3, 85, 256);
        x.night();
        odds(x, 1, 3, 1, 2);
    }

    @Edge(promise = 47, says = "the upper WHOLE or the lower, in lowest terms (0 by 1)")
    static void lowestTerms() {
        odds(sleeping(50), 1, 3, 0, 1);
        odds(sleeping(36), 2, 3, 256, 625);
        odds(sleeping(99), 2, 3, 1, 10000);
        StewardHeaps x = sleeping(1);
        long upper = 28L * 99 * 99 + 56L * 99 * 99 * 99 * 99 * 99 + 99L * 99 * 99 * 99 * 99 * 99 * 99 * 99;
        java.math.BigInteger all = java.math.BigInteger.TEN.pow(16);
        long divisor = java.math.BigInteger.valueOf(upper).gcd(all).longValueExact();
        odds(x, 8, 3, upper / divisor, 10_000_000_000_000_000L / divisor);
    }

    @Edge(promise = 47, says = "each NIGHT of a cellar, as likely as told, nothing is done.")
    static void alwaysAndNeverAsleep() {
        odds(sleeping(0), 2, 3, 1, 1);
        odds(sleeping(0), 8, 3, 1, 1);
        odds(sleeping(0), 7, 3, 0, 1);
        odds(sleeping(100), 2, 3, 0, 1);
        odds(sleeping(100), 8, 2, 1, 1);
        odds(sleeping(25), 2, 3, 9, 16);
    }

    @Edge(promise = 47, says = "-1: 1")
    static void oddsOfNone() {
        Refusals.ofNoCellar("odds(c, 0, 0, true)", -1, (x, c) -> x.odds(c, 0, 0, true));
        Refusals.ofNoCellar("odds(c, 0, 0, false)", -1, (x, c) -> x.odds(c, 0, 0, false));
    }

    @Edge(promise = 47, says = "-1: 1; 2")
    static void oddsOfTooFewOrTooMany() {
        Refusals.beyond("odds(0, n, 0, true)", -1, 0, 8, (x, n) -> x.odds(0, n, 0, true));
        Refusals.beyond("odds(0, 0, many, false)", -1, 0, 60, (x, many) -> x.odds(0, 0, many, false));
    }

    // ---- promise 48

    @Edge(promise = 48, says = "The mean of how many there are then, likewise.")
    static void meansAtTheEdges() {
        mean(sleeping(50), 0, 2, 1);
        mean(sleeping(50), 1, 2, 1);
        mean(sleeping(50), 2, 9, 4);
        mean(sleeping(50), 8, 2 * 256 + 85, 256);
        mean(sleeping(0), 8, 3, 1);
        mean(sleeping(100), 8, 2, 1);
        mean(Texts.noHeaps("steward"), 0, 0, 1);
        mean(Texts.noHeaps("steward"), 8, 0, 1);
        mean(Texts.sixtyHeaps("miser"), 8, 60, 1);
        mean(Texts.sixtyHeaps("steward"), 1, 61, 2);
    }

    @Edge(promise = 48, says = "The mean of how many there are then, likewise.")
    static void greatestMean() {
        StewardHeaps x = Texts.of("store hold 9 sleeps 1;cellar a giver 1 1 1 1 1 1 1 1");
        Texts.add(x, 0, Texts.ones(52), 0);
        Naive.State state = new Naive.State(java.util.Collections.nCopies(60, 1), 0);
        for (int n = 0; n <= 8; n++) {
            java.math.BigInteger upper = Naive.weigh(state, Naive.GIVER, 9, 1, n, -1);
            mean(x, n, Naive.lowest(upper, n, false), Naive.lowest(upper, n, true));
        }
        x = Texts.of("store hold 9 sleeps 0;cellar a miser 1 1 1 1 1 1 1 1");
        Texts.add(x, 0, Texts.ones(52), 0);
        mean(x, 8, 60, 1);
    }

    @Edge(promise = 48, says = "-1: 1")
    static void meanOfNone() {
        Refusals.ofNoCellar("mean(c, 0, true)", -1, (x, c) -> x.mean(c, 0, true));
        Refusals.ofNoCellar("mean(c, 0, false)", -1, (x, c) -> x.mean(c, 0, false));
    }

    @Edge(promise = 48, says = "-1: 1; 2")
    static void meanBehindTooFewOrTooMany() {
        Refusals.beyond("mean(0, n, true)", -1, 0, 8, (x, n) -> x.mean(0, n, true));
    }

    // ---- promise 49

    private static StewardHeaps giver(int sleeps) {
        return Texts.of("store hold 3 sleeps " + sleeps + ";cellar a giver 5");
    }

    @Edge(promise = 49, says = "behind n NIGHTS (0 .. 200)")
    static void drawnBehindNoneAndBehind200() {
        StewardHeaps x = giver(50);
        for (int seed = 0; seed < 100; seed++) {
            Checks.answered(x, "drawn(0, " + seed + ", 0)", x.drawn(0, seed, 0), 1);
            Checks.answered(x, "drawn(0, " + seed + ", 200)", x.drawn(0, seed, 200), drawnOfFive(seed, 200));
        }
        x = giver(50);
        for (int n = 1; n <= 200; n++) {
            Checks.due("drawn(0, 7, " + n + ")", x.drawn(0, 7, n), drawnOfFive(7, n));
        }
    }

    private static int drawnOfFive(int seed, int n) {
        return Naive.drawn(Naive.of(0, 5), Naive.GIVER, 3, 50, seed, n);
    }

    @Edge(promise = 49, says = "by a SEED (0 .. 65,536)")
    static void leastAndMostSeed() {
        // 0 becomes 74, then 5,624: awake, asleep; 65,536 stays: 36, asleep each night.
        StewardHeaps x = giver(50);
        Checks.answered(x, "drawn(0, 0, 1)", x.drawn(0, 0, 1), 5);
        Checks.answered(x, "drawn(0, 0, 2)", x.drawn(0, 0, 2), 5);
        Checks.answered(x, "drawn(0, 0, 3)", x.drawn(0, 0, 3), 4);
        Checks.answered(x, "drawn(0, 65536, 1)", x.drawn(0, 65536, 1), 1);
        Checks.answered(x, "drawn(0, 65536, 200)", x.drawn(0, 65536, 200), 1);
    }

    @Edge(promise = 49, says = "(SEED becomes (75 times SEED and 74) mod 65,537)")
    static void seedGoesRound() {
        // 873 becomes 65,549 less 65,537: 12, asleep; 872 becomes 65,474: 74, awake.
        StewardHeaps x = giver(50);
        Checks.answered(x, "drawn(0, 873, 1)", x.drawn(0, 873, 1), 1);
        Checks.answered(x, "drawn(0, 872, 1)", x.drawn(0, 872, 1), 5);
        for (int seed = 0; seed <= 65536; seed += 1024) {
            int due = drawnOfFive(seed, 200);
            Checks.answered(x, "drawn(0, " + seed + ", 200)", x.drawn(0, seed, 200), due);
        }
    }

    @Edge(promise = 49, says = "By a SEED: a DRAW mod 100 each night: below sleeps nothing is")
    static void drawsAroundSleeps() {
        // 65,536 stays as it is: each DRAW mod 100 is 36.
        StewardHeaps x = giver(36);
        Checks.answered(x, "36 isn't below 36", x.drawn(0, 65536, 1), 5);
        Checks.answered(x, "nor in 200 nights", x.drawn(0, 65536, 200), x.heaps(0, 200));
        x = giver(37);
        Checks.answered(x, "36 is below 37", x.drawn(0, 65536, 200), 1);
        x = giver(0);
        Checks.answered(x, "never asleep", x.drawn(0, 7, 199), x.heaps(0, 199));
        x = giver(100);
        Checks.answered(x, "always asleep", x.drawn(0, 7, 200), 1);
    }

    @Edge(promise = 49, says = "NONE: 1")
    static void drawnOfNone() {
        Refusals.ofNoCellar("drawn(c, 0, 0)", -1, (x, c) -> x.drawn(c, 0, 0));
    }

    @Edge(promise = 49, says = "NONE: 1; 2")
    static void drawnByTooLowOrTooHigh() {
        Refusals.beyond("drawn(0, seed, 0)", -1, 0, 65536, (x, seed) -> x.drawn(0, seed, 0));
        Refusals.beyond("drawn(0, seed, 1)", -1, 0, 65536, (x, seed) -> x.drawn(0, seed, 1));
        Refusals.beyond("drawn(0, 0, n)", -1, 0, 200, (x, n) -> x.drawn(0, 0, n));
    }
}
