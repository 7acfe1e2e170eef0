import java.math.BigInteger;
import java.util.ArrayDeque;
import java.util.ArrayList;
import java.util.Deque;
import java.util.List;
import java.util.NoSuchElementException;
import java.util.Random;

/** Runs of calls drawn by fixed seeds, each answer against the naive one. */
final class RandomRunsTest {
    private static final int RUNS = 700;
    // Of the 512 calls of an object, with room for what one step asks.
    private static final int CALLS = 360;
    private static final int TEXTS = 20000;
    private static final String[] LAWS = {"steward", "banker", "miser", "giver"};
    private static final String[] NAMES = {"a", "b", "c", "d", "hold", "night", "abcdefgh", "steward"};
    private static final String[] BITS = {"store", "hold", "sleeps", "cellar", "unsure", "seen", "night", "heaps",
            "steward", "banker", "miser", "giver", ";", ";", "a", "b", "zz", "0", "1", "9", "10", "31", "40", "60", "61",
            "99", "100", "101", "007", "1000", "A", "-", "toolongword", " ", "\u00e9", "\u0000"};

    private final Random random;
    private final StewardHeaps x = new StewardHeaps();
    private final Deque<Moment> past = new ArrayDeque<>();
    private final List<Moment> images = new ArrayList<>();
    private NaiveStore store;
    private Moment now = new Moment(List.of(), 0);
    private int calls = 0;

    /** All cellars at one time. */
    private record Moment(List<Naive.State> cellars, int nights) {
    }

    private RandomRunsTest(int seed) {
        random = new Random(seed);
    }

    static void run() {
        texts();
        for (int seed = 1; seed <= RUNS; seed++) {
            new RandomRunsTest(seed).steps();
        }
    }

    // ---- texts

    private static void texts() {
        Checks.promise(3);
        Random random = new Random(4711);
        StewardHeaps x = new StewardHeaps();
        for (int i = 0; i < TEXTS; i++) {
            if (i % 10 == 0) {
                x = new StewardHeaps();
            }
            String text = broken(random, text(random));
            NaiveStore due = new NaiveStore(text);
            int got = Texts.tell(x, text);
            Checks.due(text, got, due.fault == null ? due.start.size() : -1);
            Checks.due(text + ", fault()", x.fault(), due.fault == null ? 0 : due.fault.number());
            Checks.due(text + ", where()", x.where(), due.fault == null ? -1 : due.fault.place());
        }
    }

    /** A store, more often sound than not. */
    private static String text(Random random) {
        int cellars = 1 + random.nextInt(4);
        int first = random.nextInt(NAMES.length);
        StringBuilder text = new StringBuilder("store hold " + (2 + random.nextInt(8)) + " sleeps " + random.nextInt(101));
        for (int c = 0; c < cellars; c++) {
            text.append(";cellar ").append(NAMES[(first + c) % NAMES.length]).append(' ').append(LAWS[random.nextInt(4)]);
            int heaps = 1 + random.nextInt(random.nextInt(5) == 0 ? 8 : 4);
            int left = 40;
            for (int i = 0; i < heaps && left > 0; i++) {
                int height = 1 + random.nextInt(Math.min(left, random.nextInt(4) == 0 ? 30 : 6));
                left -= height;
                text.append(' ').append(height);
            }
        }
        int[] order = {0, 1, 2, 3};
        for (int i = 3; i > 0; i--) {
            int j = random.nextInt(i + 1);
            int kept = order[i];
            order[i] = order[j];
            order[j] = kept;
        }
        for (int c : order) {
            if (c < cellars && random.nextInt(3) > 0) {
                text.append(";unsure ").append(NAMES[(first + c) % NAMES.length]).append(' ').append(1 + random.nextInt(9));
            }
        }
        int seen = random.nextInt(random.nextInt(3) == 0 ? 7 : 3);
        for (int s = 0; s < seen; s++) {
            int c = random.nextInt(cellars);
            int night = random.nextInt(3) == 0 ? random.nextInt(100) : 7 * s + random.nextInt(3);
            text.append(";seen ").append(NAMES[(first + c) % NAMES.length]).append(" night ").append(night)
                    .append(" heaps ").append(1 + random.nextInt(6));
        }
        return text.toString();
    }

    /** Some words or lines of it left out, put in, or told twice. */
    private static String broken(Random random, String text) {
        String changed = text;
        for (int times = random.nextInt(4); times > 0; times--) {
            String[] parts = changed.split(" |(?=;)|(?<=;)");
            int at = random.nextInt(parts.length);
            String bit = random.nextInt(3) == 0 ? parts[random.nextInt(parts.length)] : BITS[random.nextInt(BITS.length)];
            switch (random.nextInt(5)) {
                case 0 -> parts[at] = "";
                case 1 -> parts[at] = parts[at] + " " + bit;
                case 2 -> parts[at] = parts[at] + bit;
                case 3 -> parts[at] = bit;
                default -> {
                    String[] lines = changed.split(";");
                    parts = new String[] {changed + ";" + lines[random.nextInt(lines.length)]};
                }
            }
            changed = String.join(" ", parts).replace(" ;", random.nextBoolean() ? ";" : "  ;");
        }
        return changed.length() > 860 ? changed.substring(0, 860) : changed;
    }

    // ---- calls

    private StewardHeaps x() {
        calls++;
        return x;
    }

    private void steps() {
        for (int step = 0; calls < CALLS; step++) {
            if (step == 0 || random.nextInt(60) == 0) {
                tell();
            }
            ask(random.nextInt(58));
            if (random.nextInt(10) == 0) {
                stateNow();
            }
        }
    }

    private void tell() {
        String text = text(random);
        NaiveStore next = new NaiveStore(text);
        Checks.promise(3);
        calls += text.length() / 20 + 1;
        due(text, Texts.tell(x(), text), next.fault == null ? next.start.size() : -1);
        if (next.fault == null) {
            store = next;
            now = new Moment(List.copyOf(store.start), 0);
            past.clear();
            images.clear();
        }
    }

    private void due(String what, long got, long want) {
        Checks.due("call " + calls + ": " + what, got, want);
    }

    private void stateNow() {
        for (int c = 0; c < now.cellars().size(); c++) {
            Naive.State state = now.cellars().get(c);
            Checks.promise(6);
            due("law", x().cellar(c, 0), store.laws.get(c));
            due("how many heaps", x().cellar(c, 1), state.heaps().size());
            due("stones", x().cellar(c, 2), state.stones());
            due("greatest", x().cellar(c, 3), state.heaps().isEmpty() ? 0 : state.heaps().get(0));
            due("held", x().cellar(c, 4), state.held());
            Checks.promise(7);
            for (int i = 0; i < state.heaps().size(); i++) {
                due("heap", x().heap(c, i), state.heaps().get(i));
            }
        }
        Checks.promise(58);
        if (store != null) {
            due("hold", x().size(0), store.hold);
            due("sleeps", x().size(1), store.sleeps);
            due("cellars", x().size(2), store.start.size());
            due("unsure", x().size(3), store.unsure.size());
            due("seen", x().size(4), store.seen.size());
            due("nights", x().size(5), now.nights());
            due("stones", x().size(6), now.cellars().stream().mapToInt(Naive.State::stones).sum());
            due("acts", x().size(7), past.size());
            due("images", x().size(8), images.size());
        }
    }

    private void ask(int which) {
        if (store == null) {
            return;
        }
        int c = random.nextInt(now.cellars().size());
        Naive.State state = now.cellars().get(c);
        int law = store.laws.get(c);
        if (which < 12) {
            Checks.promise(9 + which % 4);
            comingNights(c, state, law, which);
        } else if (which < 22) {
            shape(c, state, which);
        } else if (which < 30) {
            sums(c, state, which);
        } else if (which < 36) {
            unsure();
        } else if (which < 40) {
            chance(c, state, law);
        } else {
            act(c, state, which);
        }
    }

    private void comingNights(int c, Naive.State state, int law, int which) {
        if (which < 8) {
            int n = random.nextInt(3) == 0 ? random.nextInt(1000) : random.nextInt(20);
            Naive.State then = Naive.nights(state, law, store.hold, n);
            int i = random.nextInt(8);
            Checks.promise(9);
            due("heaps(" + c + ", " + n + ")", x().heaps(c, n), then.heaps().size());
            Checks.promise(10);
            due("greatest(" + c + ", " + n + ")", x().greatest(c, n), then.heaps().isEmpty() ? 0 : then.heaps().get(0));
            Checks.promise(11);
            due("heapIn(" + c + ", " + n + ", " + i + ")", x().heapIn(c, n, i), i < then.heaps().size() ? then.heaps().get(i) : 0);
            Checks.promise(12);
            due("held(" + c + ", " + n + ")", x().held(c, n), then.held());
            return;
        }
        int[] rounds = Naive.settleAndRound(state, law, store.hold);
        Checks.promise(13);
        due("settles(" + c + ")", x().settles(c), rounds[0]);
        Checks.promise(14);
        due("round(" + c + ")", x().round(c), rounds[1]);
        Checks.promise(15);
        due("fewest(" + c + ")", x().fewest(c), Naive.fewest(state, law, store.hold));
        Checks.promise(16);
        int other = random.nextInt(now.cellars().size());
        int alike = c == other ? -1
                : Naive.alike(state, law, now.cellars().get(other), store.laws.get(other), store.hold);
        due("alike(" + c + ", " + other + ")", x().alike(c, other), alike);
        Checks.promise(8);
        due("still(" + c + ")", x().still(c), Naive.night(state, law, store.hold).equals(state) ? 1 : 0);
    }

    private void shape(int c, Naive.State state, int which) {
        List<Integer> heaps = state.heaps();
        int i = random.nextInt(8) - 1;
        int j = random.nextInt(9) - 1;
        int other = random.nextInt(now.cellars().size());
        Checks.promise(17);
        due("column", x().column(c, Math.max(j, 0)), Naive.column(heaps, Math.max(j, 0)));
        Checks.promise(18);
        due("square", x().square(c), Naive.square(heaps));
        Checks.promise(19);
        due("corners", x().corners(c), heaps.stream().distinct().count());
        Checks.promise(20);
        due("rank", x().rank(c), heaps.isEmpty() ? 0 : heaps.get(0) - heaps.size());
        Checks.promise(21);
        due("hook", x().hook(c, i, j), Naive.isStone(heaps, i, j) ? Naive.hook(heaps, i, j) : -1);
        Checks.promise(23);
        due("common", x().common(c, other), Naive.common(heaps, now.cellars().get(other).heaps()));
        Checks.promise(24);
        due("mirrors", x().mirrors(c, other), Naive.mirrors(heaps, now.cellars().get(other).heaps()) ? 1 : 0);
        Checks.promise(22);
        if (Naive.sum(heaps) > 30) {
            Checks.refused(x(), "orders", x().orders(c), -1, 3);
        } else if (Naive.sum(heaps) <= 22 || which == 12) {
            due("orders", x().orders(c), Naive.orders(heaps).longValueExact());
        }
        if (Naive.sum(heaps) <= 18) {
            List<List<Integer>> sources = Naive.sources(heaps);
            Checks.promise(25);
            due("sources", x().sources(c), sources.size());
            Checks.promise(26);
            int k = random.nextInt(3);
            int height = random.nextInt(6);
            if (k >= sources.size()) {
                due("source", x().source(c, k, height), -1);
            } else {
                int want = height < sources.get(k).size() ? sources.get(k).get(height) : 0;
                due("source", x().source(c, k, height), want);
            }
        }
    }

    private void sums(int c, Naive.State state, int which) {
        List<Integer> heaps = state.heaps();
        Checks.promise(34);
        due("level", x().level(c), Naive.level(heaps));
        if (heaps.size() <= 6) {
            Checks.promise(33);
            due("carry", x().carry(c), Naive.carry(heaps));
        }
        if (heaps.size() <= 12) {
            int k = random.nextInt(61);
            Checks.promise(35);
            due("makes(" + c + ", " + k + ")", x().makes(c, k), Naive.makes(heaps, k));
            Checks.promise(36);
            due("half", x().half(c), Naive.half(heaps));
        }
        if (Naive.sum(heaps) <= 20) {
            int[] bite = Naive.firstBite(heaps);
            Checks.promise(30);
            due("eats", x().eats(c), bite == null ? 0 : 1);
            Checks.promise(31);
            due("eatsOf", x().eatsOf(c), bite == null ? -2 : bite[0]);
            Checks.promise(32);
            due("eatsMany", x().eatsMany(c), bite == null ? -2 : bite[1]);
        }
    }

    private void unsure() {
        List<Integer> fits = store.fits();
        Checks.promise(37);
        due("fits()", x().fits(), fits.size());
        Checks.promise(38);
        int i = random.nextInt(6) - 1;
        due("fitAt(" + i + ")", x().fitAt(i), i >= 0 && i < fits.size() ? fits.get(i) : -1);
        Checks.promise(39);
        due("could()", x().could(), fits.stream().reduce(0, (one, other) -> one | other));
        Checks.promise(40);
        due("surely()", x().surely(), fits.isEmpty() ? 0 : fits.stream().reduce(15, (one, other) -> one & other));
        Checks.promise(41);
        due("ask()", x().ask(), store.ask()[0]);
        Checks.promise(42);
        due("askLeaves()", x().askLeaves(), store.ask()[1]);
        Checks.promise(43);
        due("judge()", x().judge(), store.judge());
    }

    private void chance(int c, Naive.State state, int law) {
        int n = random.nextInt(9);
        int many = random.nextInt(8);
        Checks.promise(47);
        BigInteger odds = Naive.weigh(state, law, store.hold, store.sleeps, n, many);
        due("odds, upper", x().odds(c, n, many, false), Naive.lowest(odds, n, false));
        due("odds, lower", x().odds(c, n, many, true), Naive.lowest(odds, n, true));
        Checks.promise(48);
        BigInteger mean = Naive.weigh(state, law, store.hold, store.sleeps, n, -1);
        due("mean, upper", x().mean(c, n, false), Naive.lowest(mean, n, false));
        due("mean, lower", x().mean(c, n, true), Naive.lowest(mean, n, true));
        Checks.promise(49);
        int seed = random.nextInt(65537);
        int nights = random.nextInt(201);
        int drawn = Naive.drawn(state, law, store.hold, store.sleeps, seed, nights);
        due("drawn(" + c + ", " + seed + ", " + nights + ")", x().drawn(c, seed, nights), drawn);
    }

    private void act(int c, Naive.State state, int which) {
        int i = random.nextInt(6) - 1;
        int j = random.nextInt(6) - 1;
        boolean hasI = i >= 0 && i < state.heaps().size();
        boolean hasJ = j >= 0 && j < state.heaps().size();
        List<Integer> heaps = new ArrayList<>(state.heaps());
        switch (which % 9) {
            case 0, 1, 2 -> night();
            case 3 -> {
                Checks.promise(51);
                int many = random.nextInt(random.nextInt(3) == 0 ? 33 : 6);
                boolean refused = many < 1 || many > 30 || state.stones() + many > 60;
                due("add(" + c + ", " + many + ")", x().add(c, many), refused ? -1 : heaps.size() + 1);
                if (!refused) {
                    heaps.add(many);
                    change(c, heaps);
                }
            }
            case 4, 5 -> {
                Checks.promise(52);
                due("take(" + c + ", " + i + ")", x().take(c, i), hasI ? state.stones() - 1 : -1);
                if (hasI) {
                    heaps.set(i, heaps.get(i) - 1);
                    change(c, heaps);
                }
            }
            case 6 -> {
                Checks.promise(53);
                boolean refused = !hasI || !hasJ || i == j;
                due("join(" + c + ", " + i + ", " + j + ")", x().join(c, i, j), refused ? -1 : heaps.get(i) + heaps.get(j));
                if (!refused) {
                    heaps.set(i, heaps.get(i) + heaps.get(j));
                    heaps.set(j, 0);
                    change(c, heaps);
                }
            }
            case 7 -> {
                Checks.promise(54);
                Checks.due("undo()", x().undo(), !past.isEmpty());
                now = past.isEmpty() ? now : past.pop();
            }
            default -> {
                imageOrBack();
                ledOnes();
            }
        }
    }

    private void keep() {
        past.push(now);
        if (past.size() > 16) {
            past.removeLast();
        }
    }

    private void change(int c, List<Integer> heaps) {
        keep();
        List<Naive.State> cellars = new ArrayList<>(now.cellars());
        cellars.set(c, new Naive.State(Naive.sorted(heaps), cellars.get(c).held()));
        now = new Moment(cellars, now.nights());
    }

    private void night() {
        Checks.promise(50);
        List<Naive.State> cellars = new ArrayList<>();
        int changed = 0;
        for (int c = 0; c < now.cellars().size(); c++) {
            cellars.add(Naive.night(now.cellars().get(c), store.laws.get(c), store.hold));
            changed |= cellars.get(c).equals(now.cellars().get(c)) ? 0 : 1 << c;
        }
        due("night()", x().night(), changed);
        keep();
        now = new Moment(cellars, now.nights() + 1);
    }

    private void imageOrBack() {
        int which = random.nextInt(6) - 1;
        if (random.nextInt(3) == 0) {
            Checks.promise(55);
            due("image()", x().image(), images.size() < 3 ? images.size() : -1);
            if (images.size() < 3) {
                images.add(now);
            }
        } else {
            Checks.promise(56);
            boolean there = which >= 0 && which < images.size();
            Checks.due("back(" + which + ")", x().back(which), there);
            if (there) {
                now = images.get(which);
                past.clear();
            }
        }
    }

    private void ledOnes() {
        Checks.promise(57);
        List<Integer> still = new ArrayList<>();
        for (int c = 0; c < now.cellars().size(); c++) {
            if (Naive.night(now.cellars().get(c), store.laws.get(c), store.hold).equals(now.cellars().get(c))) {
                still.add(c);
            }
        }
        for (int i = -1; i < 5; i++) {
            int got;
            try {
                got = x().led(i);
            } catch (NoSuchElementException e) {
                got = -1;
            }
            due("led(" + i + ")", got, i >= 0 && i < still.size() ? still.get(i) : -1);
        }
    }
}
