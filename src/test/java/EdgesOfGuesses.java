/** Edges of promises 37 to 43: unsure cellars. */
final class EdgesOfGuesses {
    private static final String STORE = "store hold 3 sleeps 0;cellar a steward 3 1;cellar b banker 4 2;cellar c miser 2 2 1;cellar d giver 3 2 1";
    private static final String TWO = STORE + ";unsure a 2;unsure b 1";
    private static final String ALL = STORE + ";unsure d 9;unsure c 1;unsure b 2;unsure a 3";
    private static final String NO_SET = TWO + ";seen a night 0 heaps 4";

    private EdgesOfGuesses() {
    }

    // ---- promises 37 and 38

    @Edge(promise = 37, says = "there were so many HEAPS behind each night seen (0 at first): all such.")
    static void nightsSeenAtFirst() {
        Checks.due("fits() by heaps as told", Texts.of(TWO + ";seen a night 0 heaps 2").fits(), 2);
        Checks.due("fits() by a heap more", Texts.of(TWO + ";seen a night 0 heaps 3").fits(), 2);
        Checks.due("fits() by neither", Texts.of(TWO + ";seen a night 0 heaps 1").fits(), 0);
        Checks.due("fits() by both nights", Texts.of(TWO + ";seen a night 0 heaps 2;seen a night 2 heaps 3").fits(), 2);
        Checks.due("fits() by one of both nights", Texts.of(TWO + ";seen a night 0 heaps 3;seen a night 2 heaps 9").fits(), 0);
        // 3 2 1 stays as it is, 3 1 goes round.
        Checks.due("fits() by the last night", Texts.of(TWO + ";seen a night 99 heaps 3").fits(), 2);
        Checks.due("fitAt(0) by the last night", Texts.of(TWO + ";seen a night 99 heaps 3").fitAt(0), 1);
        Checks.due("fits() by no heaps", Texts.of("store hold 3 sleeps 0;cellar a banker 1;unsure a 1;seen a night 1 heaps 0").fits(), 2);
    }

    @Edge(promise = 37, says = "FITS: sets of unsure cellars that had the heap more by which, from the beginning on")
    static void fitsFromNoneToSixteen() {
        Checks.due("fits(), nothing unsure, nothing seen", Texts.of(STORE).fits(), 1);
        Checks.due("fits(), nothing unsure, seen what isn't so", Texts.of(STORE + ";seen a night 0 heaps 3").fits(), 0);
        Checks.due("fits(), all unsure, nothing seen", Texts.of(ALL).fits(), 16);
        Checks.due("fits(), seen what can't be", Texts.of(NO_SET).fits(), 0);
        StewardHeaps x = Texts.of(TWO + ";seen a night 1 heaps 2;seen b night 2 heaps 3");
        x.add(0, 9);
        x.night();
        x.join(1, 0, 1);
        Checks.answered(x, "fits() behind acts", x.fits(), 1);
        Checks.answered(x, "fitAt(0) behind acts", x.fitAt(0), 2);
        Checks.answered(x, "judge() behind acts", x.judge(), 1);
    }

    @Edge(promise = 37, says = "NONE: 1 (no STORE)")
    static void fitsWithoutStore() {
        Refusals.withoutStore("fits()", -1, (x, n) -> x.fits());
    }

    @Edge(promise = 38, says = "The i-th, by bits of unsure cellars as told.")
    static void fitsByBits() {
        StewardHeaps x = Texts.of(ALL);
        for (int i = 0; i < 16; i++) {
            Checks.answered(x, "fitAt(" + i + ")", x.fitAt(i), i);
        }
        x = Texts.of(ALL + ";seen d night 0 heaps 4;seen a night 0 heaps 2");
        int[] sets = {1, 3, 5, 7};
        for (int i = 0; i < 4; i++) {
            Checks.answered(x, "fitAt(" + i + "), of the first unsure one, not of the last", x.fitAt(i), sets[i]);
        }
        Checks.due("fitAt(0), nothing unsure", Texts.of(STORE).fitAt(0), 0);
    }

    @Edge(promise = 38, says = "NONE: 1 (i, too)")
    static void fitAtOfNone() {
        StewardHeaps x = new StewardHeaps();
        Checks.refused(x, "fitAt(0) without a store", x.fitAt(0), -1, 1);
        Refusals.allRefused(Texts.of(ALL), "fitAt(i) of sixteen", -1, 1, (y, i) -> y.fitAt(i),
                -1, 16, Integer.MIN_VALUE, Integer.MAX_VALUE);
        Refusals.allRefused(Texts.of(TWO), "fitAt(i) of four", -1, 1, (y, i) -> y.fitAt(i), -1, 4, 5, 15);
        Refusals.allRefused(Texts.of(NO_SET), "fitAt(i) of none", -1, 1, (y, i) -> y.fitAt(i), 0, 1);
        x = Texts.of(ALL);
        Texts.tell(x, TWO + ";seen a night 0 heaps 3");
        Checks.answered(x, "fitAt(1) of two", x.fitAt(1), 3);
        Checks.refused(x, "fitAt(2) of two, of a store behind one with more", x.fitAt(2), -1, 1);
    }

    // ---- promises 39 and 40

    @Edge(promise = 39, says = "Unsure cellars in some, as bits.")
    static void couldOfNoneAndOfAll() {
        Checks.due("could() of no set", Texts.of(NO_SET).could(), 0);
        Checks.due("could() of one set", Texts.of(TWO + ";seen a night 0 heaps 2;seen b night 0 heaps 3").could(), 2);
        Checks.due("could(), nothing unsure", Texts.of(STORE).could(), 0);
        Checks.due("could(), all unsure", Texts.of(ALL).could(), 15);
        Checks.due("could(), one is known", Texts.of(ALL + ";seen c night 0 heaps 3").could(), 13);
    }

    @Edge(promise = 39, says = "NONE: 1 (no STORE)")
    static void couldWithoutStore() {
        Refusals.withoutStore("could()", -1, (x, n) -> x.could());
    }

    @Edge(promise = 40, says = "(0 without a set)")
    static void surelyOfNoneAndOfAll() {
        StewardHeaps x = Texts.of(NO_SET);
        Checks.answered(x, "surely() of no set", x.surely(), 0);
        Checks.due("surely(), nothing unsure", Texts.of(STORE).surely(), 0);
        Checks.due("surely(), nothing seen", Texts.of(ALL).surely(), 0);
        Checks.due("surely(), one is known", Texts.of(ALL + ";seen c night 0 heaps 4").surely(), 2);
        x = Texts.of(ALL + ";seen a night 0 heaps 3;seen b night 0 heaps 3;seen c night 0 heaps 4;seen d night 0 heaps 4");
        Checks.answered(x, "surely(), all are known", x.surely(), 15);
        Texts.tell(x, NO_SET);
        Checks.answered(x, "surely() of no set, behind a store with one", x.surely(), 0);
        Checks.answered(x, "could() of no set, behind a store with one", x.could(), 0);
    }

    @Edge(promise = 40, says = "NONE: 1 (no STORE)")
    static void surelyWithoutStore() {
        Refusals.withoutStore("surely()", -1, (x, n) -> x.surely());
    }

    // ---- promises 41 and 42

    @Edge(promise = 41, says = "-2 no FITS, no unsure cellar")
    static void noneToAsk() {
        StewardHeaps x = Texts.of(NO_SET);
        Checks.answered(x, "ask() of no set", x.ask(), -2);
        x = Texts.of(STORE);
        Checks.answered(x, "ask(), nothing unsure", x.ask(), -2);
        Checks.due("ask(), one unsure", Texts.of(STORE + ";unsure d 1").ask(), 0);
    }

    @Edge(promise = 41, says = "at most fewest FITS are left, the first such, by its place among the unsure ones as told, "
            + "from 0 (so are bits of unsure cellars).")
    static void firstToAsk() {
        Checks.due("ask(), all alike", Texts.of(ALL).ask(), 0);
        Checks.due("ask(), the first is known", Texts.of(ALL + ";seen d night 0 heaps 3").ask(), 1);
        Checks.due("ask(), three are known",
                Texts.of(ALL + ";seen d night 0 heaps 3;seen c night 0 heaps 4;seen b night 0 heaps 2").ask(), 3);
        Checks.due("ask(), all are known", Texts.of(TWO + ";seen a night 0 heaps 2;seen b night 0 heaps 3").ask(), 0);
    }

    @Edge(promise = 41, says = "NONE: 1 (no STORE)")
    static void askWithoutStore() {
        Refusals.withoutStore("ask()", -1, (x, n) -> x.ask());
    }

    @Edge(promise = 42, says = "How many are left at most then; -2 likewise.")
    static void leftFromNoneToEight() {
        StewardHeaps x = Texts.of(NO_SET);
        Checks.answered(x, "askLeaves() of no set", x.askLeaves(), -2);
        x = Texts.of(STORE);
        Checks.answered(x, "askLeaves(), nothing unsure", x.askLeaves(), -2);
        Checks.due("askLeaves(), all unsure", Texts.of(ALL).askLeaves(), 8);
        Checks.due("askLeaves(), the first is known", Texts.of(ALL + ";seen d night 0 heaps 3").askLeaves(), 4);
        Checks.due("askLeaves(), one set", Texts.of(TWO + ";seen a night 0 heaps 2;seen b night 0 heaps 3").askLeaves(), 1);
    }

    @Edge(promise = 42, says = "NONE: 1 (no STORE)")
    static void askLeavesWithoutStore() {
        Refusals.withoutStore("askLeaves()", -1, (x, n) -> x.askLeaves());
    }

    // ---- promise 43

    @Edge(promise = 43, says = "The first seen, as told, that isn't so by HEAPS as told; -2.")
    static void firstThatIsNotSo() {
        Checks.due("judge(), nothing seen", Texts.of(TWO).judge(), -2);
        Checks.due("judge(), all so", Texts.of(TWO + ";seen a night 0 heaps 2;seen a night 99 heaps 2;seen b night 0 heaps 2").judge(), -2);
        Checks.due("judge(), the first of two", Texts.of(TWO + ";seen b night 9 heaps 60;seen a night 0 heaps 60").judge(), 0);
        Checks.due("judge(), so by a heap more alone", Texts.of(TWO + ";seen a night 0 heaps 2;seen a night 1 heaps 3").judge(), 1);
        Checks.due("judge(), the last of six", Texts.of(STORE + ";seen a night 0 heaps 2;seen a night 1 heaps 2;seen a night 2 heaps 3"
                + ";seen a night 3 heaps 2;seen a night 4 heaps 2;seen a night 5 heaps 2").judge(), 5);
        StewardHeaps x = Texts.of(TWO + ";seen a night 0 heaps 2");
        Checks.answered(x, "judge() of -2 is no refusal", x.judge(), -2);
    }

    @Edge(promise = 43, says = "NONE: 1 (no STORE)")
    static void judgeWithoutStore() {
        Refusals.withoutStore("judge()", -1, (x, n) -> x.judge());
    }
}
