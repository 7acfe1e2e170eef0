/** Promises 37 to 43: unsure cellars. */
final class GuessesTest {
    private static final String TWO = "store hold 3 sleeps 0;cellar a steward 3 1;cellar b banker 4 2;unsure a 2;unsure b 1";

    private GuessesTest() {
    }

    static void run() {
        nothingSeen();
        oneSet();
        sureOnes();
        askedOnes();
        actsChangeNothing();
        judged();
    }

    private static void nothingSeen() {
        StewardHeaps x = Texts.of(TWO);
        Checks.promise(37);
        Checks.answered(x, "all sets", x.fits(), 4);
        Checks.promise(38);
        for (int i = 0; i < 4; i++) {
            Checks.answered(x, "fitAt(" + i + ")", x.fitAt(i), i);
        }
        Checks.refused(x, "fitAt(4)", x.fitAt(4), -1, 1);
        Checks.refused(x, "fitAt(-1)", x.fitAt(-1), -1, 1);
        Checks.promise(39);
        Checks.answered(x, "could", x.could(), 3);
        Checks.promise(40);
        Checks.answered(x, "surely", x.surely(), 0);
        Checks.promise(41);
        Checks.answered(x, "ask", x.ask(), 0);
        Checks.promise(42);
        Checks.answered(x, "askLeaves", x.askLeaves(), 2);
        Checks.promise(43);
        Checks.answered(x, "judge", x.judge(), -2);
        x = Texts.of(Texts.FOUR);
        Checks.promise(37);
        Checks.answered(x, "no unsure cellar: the empty set", x.fits(), 1);
        Checks.promise(38);
        Checks.answered(x, "fitAt(0)", x.fitAt(0), 0);
        Checks.promise(41);
        Checks.answered(x, "none to ask", x.ask(), -2);
        Checks.promise(42);
        Checks.answered(x, "none to ask", x.askLeaves(), -2);
    }

    private static void oneSet() {
        StewardHeaps x = Texts.of(TWO + ";seen a night 1 heaps 2;seen b night 2 heaps 3");
        Checks.promise(37);
        Checks.answered(x, "fits", x.fits(), 1);
        Checks.promise(38);
        Checks.answered(x, "fitAt(0)", x.fitAt(0), 2);
        Checks.refused(x, "fitAt(1)", x.fitAt(1), -1, 1);
        Checks.promise(39);
        Checks.answered(x, "could", x.could(), 2);
        Checks.promise(40);
        Checks.answered(x, "surely", x.surely(), 2);
        Checks.promise(41);
        Checks.answered(x, "ask", x.ask(), 0);
        Checks.promise(42);
        Checks.answered(x, "askLeaves", x.askLeaves(), 1);
        Checks.promise(43);
        Checks.answered(x, "judge", x.judge(), 1);
    }

    private static void sureOnes() {
        String store = "store hold 3 sleeps 0;cellar a steward 3 1;cellar b steward 3 1;unsure b 1;";
        Checks.promise(37);
        StewardHeaps x = Texts.of(store + "seen a night 2 heaps 3");
        Checks.answered(x, "as it is in a cellar of which all are sure", x.fits(), 2);
        x = Texts.of(store + "seen a night 2 heaps 2");
        Checks.answered(x, "not as it is in a cellar of which all are sure", x.fits(), 0);
        x = Texts.of(store + "seen b night 0 heaps 3");
        Checks.answered(x, "at first", x.fits(), 1);
        Checks.promise(38);
        Checks.answered(x, "bits by unsure ones, not by cellars", x.fitAt(0), 1);
    }

    private static void askedOnes() {
        String store = "store hold 3 sleeps 0;cellar a steward 3 1;cellar b giver 3 1;cellar c miser 2;"
                + "unsure c 4;unsure a 2;unsure b 5;";
        StewardHeaps x = Texts.of(store + "seen c night 0 heaps 2");
        Checks.promise(41);
        Checks.answered(x, "one that is known already is not asked", x.ask(), 1);
        Checks.promise(42);
        Checks.answered(x, "half are left", x.askLeaves(), 2);
        Checks.promise(40);
        Checks.answered(x, "surely", x.surely(), 1);
        Checks.promise(39);
        Checks.answered(x, "could", x.could(), 7);
        x = Texts.of(store + "seen c night 0 heaps 1;seen a night 0 heaps 3");
        Checks.promise(41);
        Checks.answered(x, "the last", x.ask(), 2);
        Checks.promise(38);
        Checks.answered(x, "fitAt(0)", x.fitAt(0), 2);
        Checks.answered(x, "fitAt(1)", x.fitAt(1), 6);
    }

    private static void actsChangeNothing() {
        StewardHeaps x = Texts.of(TWO + ";seen a night 1 heaps 2;seen b night 2 heaps 3");
        x.night();
        x.add(0, 9);
        x.join(1, 0, 1);
        Checks.promise(37);
        Checks.answered(x, "fits", x.fits(), 1);
        Checks.promise(38);
        Checks.answered(x, "fitAt(0)", x.fitAt(0), 2);
        Checks.promise(43);
        Checks.answered(x, "judge", x.judge(), 1);
    }

    private static void judged() {
        Checks.promise(43);
        StewardHeaps x = Texts.of(TWO + ";seen a night 0 heaps 2;seen b night 99 heaps 60;seen a night 3 heaps 60");
        Checks.answered(x, "the first that isn't so", x.judge(), 1);
        x = Texts.of(TWO + ";seen a night 0 heaps 2;seen a night 99 heaps 2");
        Checks.answered(x, "all are so", x.judge(), -2);
        x = Texts.of(TWO + ";seen a night 0 heaps 3");
        Checks.answered(x, "by heaps as told, without one more", x.judge(), 0);
        Checks.promise(37);
        Checks.answered(x, "but it may be", x.fits(), 2);
    }
}
