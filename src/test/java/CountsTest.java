import java.util.HashSet;
import java.util.List;

/** Promises 27 to 36 and 44 to 46: heaps counted, eaten, carried, levelled, summed; steward and mouse. */
final class CountsTest {
    private CountsTest() {
    }

    static void run() {
        ways();
        eaten();
        carriedAndLevelled();
        summed();
        allOfFewStones();
        mouse();
    }

    private static void ways() {
        StewardHeaps x = Texts.of(Texts.FOUR);
        Checks.promise(27);
        Checks.answered(x, "ways(0)", x.ways(0), 1);
        Checks.answered(x, "ways(60)", x.ways(60), 966467);
        Checks.promise(28);
        Checks.answered(x, "waysBy(0, 0)", x.waysBy(0, 0), 1);
        Checks.answered(x, "waysBy(0, 1)", x.waysBy(0, 1), 0);
        Checks.answered(x, "waysBy(1, 0)", x.waysBy(1, 0), 0);
        Checks.answered(x, "waysBy(60, 60)", x.waysBy(60, 60), 1);
        Checks.answered(x, "waysBy(60, 1)", x.waysBy(60, 1), 1);
        Checks.answered(x, "waysBy(60, 2)", x.waysBy(60, 2), 30);
        Checks.promise(29);
        Checks.answered(x, "waysUnlike(0)", x.waysUnlike(0), 1);
        Checks.answered(x, "waysUnlike(60)", x.waysUnlike(60), 10880);
        for (int n = 0; n <= 24; n++) {
            x = Texts.of(Texts.FOUR);
            List<List<Integer>> all = Naive.partitions(n);
            Checks.promise(27);
            Checks.due("ways(" + n + ")", x.ways(n), all.size());
            Checks.promise(28);
            for (int k = 0; k <= n + 1; k++) {
                final int heaps = k;
                Checks.due("waysBy(" + n + ", " + k + ")", x.waysBy(n, k), all.stream().filter(p -> p.size() == heaps).count());
            }
            Checks.promise(29);
            Checks.due("waysUnlike(" + n + ")", x.waysUnlike(n),
                    all.stream().filter(p -> new HashSet<>(p).size() == p.size()).count());
        }
        int sum = 0;
        Checks.promise(28);
        for (int k = 0; k <= 60; k++) {
            sum += x.waysBy(60, k);
        }
        Checks.due("all ways by heaps", sum, 966467);
    }

    private static void eaten() {
        eaten("miser 4", 0, -2, -2);
        eaten("miser 3", 1, 0, 3);
        eaten("miser 5", 1, 0, 1);
        eaten("miser 6 2", 0, -2, -2);
        eaten("miser 7 5 2", 0, -2, -2);
        eaten("miser 8 3 1", 1, 0, 2);
        eaten("miser 4 4 4 1", 1, 0, 3);
        eaten("miser 3 2 2 1", 1, 0, 2);
        eaten("miser 2 1 1 1", 1, 0, 1);
        eaten("miser 2 2 1", 1, 2, 1);
        eaten("miser 6 5", 1, 0, 1);
    }

    private static void eaten(String cellar, int wins, int of, int many) {
        StewardHeaps x = Texts.cellar(cellar);
        Checks.promise(30);
        Checks.answered(x, cellar + ", eats", x.eats(0), wins);
        Checks.promise(31);
        Checks.answered(x, cellar + ", eatsOf", x.eatsOf(0), of);
        Checks.promise(32);
        Checks.answered(x, cellar + ", eatsMany", x.eatsMany(0), many);
    }

    private static void carriedAndLevelled() {
        Checks.promise(33);
        StewardHeaps x = Texts.cellar("banker 1 1 1 1 1 1 1 1");
        Checks.answered(x, "carry", x.carry(0), 24);
        x = Texts.cellar("banker 9 1");
        Checks.answered(x, "carry of two", x.carry(0), 10);
        x = Texts.cellar("banker 9");
        Checks.answered(x, "carry of one", x.carry(0), 0);
        Checks.promise(34);
        Checks.answered(x, "level of one", x.level(0), 0);
        x = Texts.cellar("banker 9 1 1");
        Checks.answered(x, "level", x.level(0), 5);
        x = Texts.cellar("banker 4 3 3 4");
        Checks.answered(x, "level already", x.level(0), 0);
        x = Texts.cellar("banker 10 9 1");
        Checks.answered(x, "level, two give", x.level(0), 5);
    }

    private static void summed() {
        StewardHeaps x = Texts.cellar("steward 7 5 4 3 1");
        Checks.promise(35);
        int[][] made = {{0, 0}, {1, 1}, {2, -2}, {6, 2}, {7, 1}, {8, 2}, {18, -2}, {19, 4}, {20, 5}, {21, -2}, {60, -2}};
        for (int[] pair : made) {
            Checks.answered(x, "makes(0, " + pair[0] + ")", x.makes(0, pair[0]), pair[1]);
        }
        Checks.promise(36);
        Checks.answered(x, "half", x.half(0), 10);
        x = Texts.cellar("steward 9 2 1");
        Checks.answered(x, "half of a great heap", x.half(0), 3);
        x = Texts.cellar("steward 9");
        Checks.answered(x, "half of one heap", x.half(0), 0);
        x = Texts.cellar("steward 3 2");
        Checks.answered(x, "half of two heaps", x.half(0), 2);
    }

    private static void allOfFewStones() {
        for (int stones = 1; stones <= 13; stones++) {
            for (List<Integer> heaps : Naive.partitions(stones)) {
                if (heaps.size() <= 5) {
                    asNaive(heaps);
                }
            }
        }
    }

    private static void asNaive(List<Integer> heaps) {
        StringBuilder told = new StringBuilder("giver");
        for (int height : heaps) {
            told.append(" ").append(height);
        }
        StewardHeaps x = Texts.cellar(told.toString());
        int[] bite = Naive.firstBite(heaps);
        Checks.promise(30);
        Checks.due(told + ", eats", x.eats(0), bite == null ? 0 : 1);
        Checks.promise(31);
        Checks.due(told + ", eatsOf", x.eatsOf(0), bite == null ? -2 : bite[0]);
        Checks.promise(32);
        Checks.due(told + ", eatsMany", x.eatsMany(0), bite == null ? -2 : bite[1]);
        Checks.promise(33);
        Checks.due(told + ", carry", x.carry(0), Naive.carry(heaps));
        Checks.promise(34);
        Checks.due(told + ", level", x.level(0), Naive.level(heaps));
        Checks.promise(36);
        Checks.due(told + ", half", x.half(0), Naive.half(heaps));
        Checks.promise(35);
        for (int k = 0; k <= 15; k++) {
            Checks.due(told + ", makes " + k, x.makes(0, k), Naive.makes(heaps, k));
        }
    }

    private static void mouse() {
        StewardHeaps x = Texts.of(Texts.FOUR);
        Checks.promise(44);
        for (int cheese = 0; cheese <= 9; cheese++) {
            Checks.answered(x, "both, steward", x.comes(cheese, true, true, false), -cheese);
            Checks.answered(x, "both, mouse", x.comes(cheese, true, true, true), 1);
            Checks.answered(x, "steward alone, steward", x.comes(cheese, true, false, false), -1);
            Checks.answered(x, "steward alone, mouse", x.comes(cheese, true, false, true), 0);
            Checks.answered(x, "mouse alone, steward", x.comes(cheese, false, true, false), 0);
            Checks.answered(x, "mouse alone, mouse", x.comes(cheese, false, true, true), 4);
            Checks.answered(x, "neither, steward", x.comes(cheese, false, false, false), 1);
            Checks.answered(x, "neither, mouse", x.comes(cheese, false, false, true), 2);
        }
        Checks.promise(45);
        Checks.answered(x, "rests(0)", x.rests(0), 2);
        Checks.answered(x, "rests(1)", x.rests(1), 1);
        Checks.answered(x, "rests(9)", x.rests(9), 1);
        Checks.promise(46);
        Checks.answered(x, "rest(0)", x.rest(0), 1);
        Checks.answered(x, "rest(1)", x.rest(1), 1);
        Checks.answered(x, "rest(9)", x.rest(9), 1);
    }
}
