/** Calls asked with numbers that are too small, too large, or of nothing that there is. */
final class Refusals {
    /** A call, one of whose numbers varies. */
    interface Call {
        long answer(StewardHeaps x, int number);
    }

    private Refusals() {
    }

    /** Without a store the call is refused by 1, also when one was told with a fault. */
    static void withoutStore(String name, long none, Call call) {
        StewardHeaps x = new StewardHeaps();
        Checks.refused(x, name + " of a new object", call.answer(x, 0), none, 1);
        Texts.tell(x, Texts.FOUR + ";");
        Checks.refused(x, name + " behind a fault", call.answer(x, 0), none, 1);
        Texts.tell(x, Texts.FOUR);
        call.answer(x, 0);
        Checks.due(name + " with a store, trouble()", x.trouble(), 0);
    }

    /** Cellars are numbered from 0 on, as many as are told; nothing changes by a refusal. */
    static void ofNoCellar(String name, long none, Call call) {
        StewardHeaps nothing = new StewardHeaps();
        Checks.refused(nothing, name + " without a store", call.answer(nothing, 0), none, 1);
        allRefused(Texts.of(Texts.FOUR), name, none, 1, call, -1, 4, Integer.MIN_VALUE, Integer.MAX_VALUE);
        allRefused(Texts.cellar("steward 3 2 1"), name, none, 1, call, 1, 2, 3);
        taken(name, call, 0);
        taken(name, call, 3);
    }

    /** Numbers from the least to the most are taken, all others refused by 2. */
    static void beyond(String name, long none, int least, int most, Call call) {
        taken(name, call, least);
        taken(name, call, most);
        allRefused(Texts.of(Texts.FOUR), name, none, 2, call, least - 1, most + 1, Integer.MIN_VALUE, Integer.MAX_VALUE);
    }

    static void allRefused(StewardHeaps x, String name, long none, int trouble, Call call, int... numbers) {
        String before = Texts.stateOf(x);
        for (int number : numbers) {
            Checks.refused(x, name + " of " + number, call.answer(x, number), none, trouble);
        }
        Checks.due("all behind refusals", Texts.stateOf(x), before);
    }

    private static void taken(String name, Call call, int number) {
        StewardHeaps x = Texts.of(Texts.FOUR);
        call.answer(x, number);
        Checks.due(name + " of " + number + ", trouble()", x.trouble(), 0);
    }
}
