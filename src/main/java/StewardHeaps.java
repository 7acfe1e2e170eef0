import java.util.NoSuchElementException;

/** Cellars with heaps of stones that are laid anew each night; ../shared/DOC.md tells what each call promises. */
public final class StewardHeaps {
    public static final int NONE = -1;

    private static final int NEVER = -2;
    private static final int NO_RANK = -1000;
    private static final int NO_GAIN = -100;

    private static final int TAPE_ROOM = 900;
    private static final int FEED_BYTES = 20;
    private static final int CELLARS = 4;
    private static final int SEEN_ROOM = 6;
    private static final int STONES = 60;
    private static final int TOLD_HEAPS = 8;
    private static final int TOLD_STONES = 40;
    private static final int HIGHEST_LAID = 30;
    private static final int ACTS_KEPT = 16;
    private static final int IMAGES_KEPT = 3;
    private static final int NIGHTS_GONE = 999;
    private static final int NIGHTS_SEARCHED = 400;
    private static final int NIGHTS_BY_CHANCE = 8;
    private static final int NIGHTS_DRAWN = 200;
    private static final int STONES_ORDERED = 30;
    private static final int MOST_CHEESE = 9;
    private static final int SEED_MODULUS = 65537;

    private static final int STEWARD = 0;
    private static final int BANKER = 1;
    private static final int MISER = 2;
    private static final int GIVER = 3;

    private static final int NO_SUCH = 1;
    private static final int BAD_NUMBER = 2;
    private static final int NO_ROOM = 3;
    private static final int FAULTY = 4;
    private static final int NOTHING_THERE = 6;

    private static final int FORM = 1;
    private static final int UNTOLD = 2;
    private static final int AGAIN = 3;
    private static final int BOUNDS = 4;
    private static final int MANY = 5;
    private static final int LACKS = 6;

    private final Reader reader = new Reader();
    private final Tape tape = reader.tape;
    private final Cellars now = new Cellars();
    private final Past past = new Past();
    private final Guesses guesses = new Guesses();
    private final Walk walk = new Walk();
    private final Walk otherWalk = new Walk();
    private final Shapes shapes = new Shapes();
    private final Sums sums = new Sums();
    private Told told = new Told();
    private int lastTrouble;
    private int lastFault;
    private int lastPlace;

    public StewardHeaps() {
    }

    // ---- the store

    public int feed(int a, int b, int c, int d, int e) {
        if (tape.size + FEED_BYTES > TAPE_ROOM) {
            return NONE;
        }
        tape.append(a);
        tape.append(b);
        tape.append(c);
        tape.append(d);
        tape.append(e);
        return tape.size;
    }

    public int store(int n) {
        if (refuses(BAD_NUMBER, n < 0 || n > tape.size)) {
            return NONE;
        }
        lastFault = reader.read(n);
        lastPlace = tape.place;
        tape.size = 0;
        if (refuses(FAULTY, lastFault != 0)) {
            return NONE;
        }
        told = reader.handOver(told);
        now.copyFrom(told.start);
        past.forget();
        guesses.work(told, walk);
        return told.cellars;
    }

    public int fault() {
        return lastFault;
    }

    public int where() {
        return lastTrouble == FAULTY ? lastPlace : NONE;
    }

    // ---- now

    public int cellar(int c, int what) {
        if (refuses(NO_SUCH, !hasCellar(c) || what < 0 || what > 4)) {
            return NONE;
        }
        Heaps here = now.rows[c];
        switch (what) {
            case 0:
                return told.laws[c];
            case 1:
                return here.count;
            case 2:
                return here.stones();
            case 3:
                return here.heightAt(0);
            default:
                return here.kept;
        }
    }

    public int heap(int c, int i) {
        if (refuses(NO_SUCH, !hasHeap(c, i))) {
            return NONE;
        }
        return now.rows[c].heightAt(i);
    }

    public int still(int c) {
        if (refusesCellar(c)) {
            return NONE;
        }
        return staysSame(c) ? 1 : 0;
    }

    // ---- nights to come

    public int heaps(int c, int n) {
        if (refusesCellar(c) || refusesNumber(n, NIGHTS_GONE)) {
            return NONE;
        }
        return behind(c, n).count;
    }

    public int greatest(int c, int n) {
        if (refusesCellar(c) || refusesNumber(n, NIGHTS_GONE)) {
            return NONE;
        }
        return behind(c, n).heightAt(0);
    }

    public int heapIn(int c, int n, int i) {
        if (refusesCellar(c) || refusesNumber(n, NIGHTS_GONE) || refusesNumber(i, STONES - 1)) {
            return NONE;
        }
        return behind(c, n).heightAt(i);
    }

    public int held(int c, int n) {
        if (refusesCellar(c) || refusesNumber(n, NIGHTS_GONE)) {
            return NONE;
        }
        return behind(c, n).kept;
    }

    public int settles(int c) {
        if (refusesCellar(c)) {
            return NONE;
        }
        return firstOfRound(c, roundLength(c));
    }

    public int round(int c) {
        if (refusesCellar(c)) {
            return NONE;
        }
        int length = roundLength(c);
        return firstOfRound(c, length) == NEVER ? NEVER : length;
    }

    public int fewest(int c) {
        if (refusesCellar(c)) {
            return NONE;
        }
        begin(walk, c);
        int least = walk.heaps.count;
        int at = 0;
        boolean wentRound = false;
        for (int n = 1; n <= NIGHTS_SEARCHED && !wentRound; n++) {
            wentRound = walk.step();
            if (walk.heaps.count < least) {
                least = walk.heaps.count;
                at = n;
            }
        }
        return at;
    }

    public int alike(int c, int other) {
        if (refuses(NO_SUCH, !hasCellar(c) || !hasCellar(other) || c == other)) {
            return NONE;
        }
        begin(walk, c);
        begin(otherWalk, other);
        for (int n = 0; n <= NIGHTS_SEARCHED; n++) {
            if (walk.heaps.isAsHigh(otherWalk.heaps)) {
                return n;
            }
            walk.step();
            otherWalk.step();
        }
        return NEVER;
    }

    // ---- shapes

    public int column(int c, int j) {
        if (refusesCellar(c) || refusesNumber(j, STONES - 1)) {
            return NONE;
        }
        return now.rows[c].higherThan(j);
    }

    public int square(int c) {
        if (refusesCellar(c)) {
            return NONE;
        }
        return Shapes.longestSquare(now.rows[c]);
    }

    public int corners(int c) {
        if (refusesCellar(c)) {
            return NONE;
        }
        return Shapes.unlikeHeights(now.rows[c]);
    }

    public int rank(int c) {
        if (refusesCellar(c)) {
            return NO_RANK;
        }
        return now.rows[c].heightAt(0) - now.rows[c].count;
    }

    public int hook(int c, int i, int j) {
        if (refuses(NO_SUCH, !hasHeap(c, i) || j < 0 || j >= now.rows[c].heightAt(i))) {
            return NONE;
        }
        return Shapes.hookOf(now.rows[c], i, j);
    }

    public long orders(int c) {
        if (refusesCellar(c) || refuses(NO_ROOM, now.rows[c].inHeaps() > STONES_ORDERED)) {
            return NONE;
        }
        return shapes.countOrders(now.rows[c]);
    }

    public int common(int c, int other) {
        if (refuses(NO_SUCH, !hasCellar(c) || !hasCellar(other))) {
            return NONE;
        }
        return Shapes.inBoth(now.rows[c], now.rows[other]);
    }

    public int mirrors(int c, int other) {
        if (refuses(NO_SUCH, !hasCellar(c) || !hasCellar(other))) {
            return NONE;
        }
        return Shapes.areMirrors(now.rows[c], now.rows[other]) ? 1 : 0;
    }

    // ---- from which heaps

    public int sources(int c) {
        if (refusesCellar(c)) {
            return NONE;
        }
        return Shapes.countSources(now.rows[c]);
    }

    public int source(int c, int k, int i) {
        if (refuses(NO_SUCH, !hasCellar(c) || k < 0 || k >= Shapes.countSources(now.rows[c]))
                || refusesNumber(i, STONES - 1)) {
            return NONE;
        }
        return Shapes.sourceHeight(now.rows[c], k, i);
    }

    // ---- counted

    public int ways(int n) {
        if (refusesStore() || refusesNumber(n, STONES)) {
            return NONE;
        }
        return sums.countWays(n, n);
    }

    public int waysBy(int n, int k) {
        if (refusesStore() || refusesNumber(n, STONES) || refusesNumber(k, STONES)) {
            return NONE;
        }
        // One stone of each of k heaps is set aside; the rest lies in columns of k stones at most.
        return k > n ? 0 : sums.countWays(n - k, k);
    }

    public int waysUnlike(int n) {
        if (refusesStore() || refusesNumber(n, STONES)) {
            return NONE;
        }
        return sums.countUnlikeWays(n);
    }

    // ---- eaten, carried, levelled

    public int eats(int c) {
        if (refusesCellar(c)) {
            return NONE;
        }
        return Sums.eatersBalance(now.rows[c]) != 0 ? 1 : 0;
    }

    public int eatsOf(int c) {
        if (refusesCellar(c)) {
            return NONE;
        }
        Heaps here = now.rows[c];
        for (int i = 0; i < here.count; i++) {
            if (Sums.winningBite(here, i) != NEVER) {
                return i;
            }
        }
        return NEVER;
    }

    public int eatsMany(int c) {
        if (refusesCellar(c)) {
            return NONE;
        }
        Heaps here = now.rows[c];
        for (int i = 0; i < here.count; i++) {
            int bite = Sums.winningBite(here, i);
            if (bite != NEVER) {
                return bite;
            }
        }
        return NEVER;
    }

    public int carry(int c) {
        if (refusesCellar(c)) {
            return NONE;
        }
        return sums.leastCarried(now.rows[c]);
    }

    public int level(int c) {
        if (refusesCellar(c)) {
            return NONE;
        }
        return Sums.fewestLaidOver(now.rows[c]);
    }

    public int makes(int c, int k) {
        if (refusesCellar(c) || refusesNumber(k, STONES)) {
            return NONE;
        }
        return sums.fewestThatMake(now.rows[c], k);
    }

    public int half(int c) {
        if (refusesCellar(c)) {
            return NONE;
        }
        return sums.lighterPart(now.rows[c]);
    }

    // ---- unsure cellars

    public int fits() {
        if (refusesStore()) {
            return NONE;
        }
        return guesses.count;
    }

    public int fitAt(int i) {
        if (refuses(NO_SUCH, !hasStore() || i < 0 || i >= guesses.count)) {
            return NONE;
        }
        return guesses.sets[i];
    }

    public int could() {
        if (refusesStore()) {
            return NONE;
        }
        return guesses.inSome();
    }

    public int surely() {
        if (refusesStore()) {
            return NONE;
        }
        return guesses.inAll();
    }

    public int ask() {
        if (refusesStore()) {
            return NONE;
        }
        return guesses.bestAsked(told.unsure);
    }

    public int askLeaves() {
        if (refusesStore()) {
            return NONE;
        }
        int asked = guesses.bestAsked(told.unsure);
        return asked == NEVER ? NEVER : guesses.leftAtMost(asked);
    }

    public int judge() {
        if (refusesStore()) {
            return NONE;
        }
        return guesses.firstNotSo;
    }

    // ---- steward and mouse

    public int comes(int cheese, boolean steward, boolean mouse, boolean ofMouse) {
        if (refusesStore() || refusesNumber(cheese, MOST_CHEESE)) {
            return NO_GAIN;
        }
        return ofMouse ? mouseHas(steward, mouse) : stewardHas(cheese, steward, mouse);
    }

    public int rests(int cheese) {
        if (refusesStore() || refusesNumber(cheese, MOST_CHEESE)) {
            return NONE;
        }
        int found = 0;
        for (int pair = 0; pair < 4; pair++) {
            if (isRest(cheese, pair >= 2, pair % 2 == 1)) {
                found++;
            }
        }
        return found;
    }

    public int rest(int cheese) {
        if (refusesStore() || refusesNumber(cheese, MOST_CHEESE)) {
            return NONE;
        }
        for (int pair = 0; pair < 4; pair++) {
            if (isRest(cheese, pair >= 2, pair % 2 == 1)) {
                return (pair >= 2 ? 10 : 0) + pair % 2;
            }
        }
        return NEVER;
    }

    // ---- nights slept

    public long odds(int c, int n, int many, boolean lower) {
        if (refusesCellar(c) || refusesNumber(n, NIGHTS_BY_CHANCE) || refusesNumber(many, STONES)) {
            return NONE;
        }
        begin(walk, c);
        return Chance.lowestTerms(Chance.oddsWeighed(walk, told.sleeps, n, many), Chance.power(100, n), lower);
    }

    public long mean(int c, int n, boolean lower) {
        if (refusesCellar(c) || refusesNumber(n, NIGHTS_BY_CHANCE)) {
            return NONE;
        }
        begin(walk, c);
        return Chance.lowestTerms(Chance.heapsWeighed(walk, told.sleeps, n), Chance.power(100, n), lower);
    }

    public int drawn(int c, int seed, int n) {
        if (refusesCellar(c) || refusesNumber(seed, SEED_MODULUS - 1) || refusesNumber(n, NIGHTS_DRAWN)) {
            return NONE;
        }
        begin(walk, c);
        int draw = seed;
        for (int i = 0; i < n; i++) {
            draw = (75 * draw + 74) % SEED_MODULUS;
            if (draw % 100 >= told.sleeps) {
                walk.step();
            }
        }
        return walk.heaps.count;
    }

    // ---- acts

    public int night() {
        if (refusesStore() || refuses(NO_ROOM, now.nights >= NIGHTS_GONE)) {
            return NONE;
        }
        Cellars before = past.keep(now);
        now.nights++;
        int changed = 0;
        for (int c = 0; c < told.cellars; c++) {
            now.rows[c].pass(told.laws[c], told.hold);
            if (!now.rows[c].isSame(before.rows[c])) {
                changed |= 1 << c;
            }
        }
        return changed;
    }

    public int add(int c, int many) {
        if (refusesCellar(c) || refuses(BAD_NUMBER, many < 1 || many > HIGHEST_LAID)
                || refuses(NO_ROOM, now.rows[c].stones() + many > STONES)) {
            return NONE;
        }
        past.keep(now);
        now.rows[c].lay(many);
        return now.rows[c].count;
    }

    public int take(int c, int i) {
        if (refuses(NO_SUCH, !hasHeap(c, i))) {
            return NONE;
        }
        past.keep(now);
        Heaps here = now.rows[c];
        here.lay(here.lift(i) - 1);
        return here.stones();
    }

    public int join(int c, int i, int j) {
        if (refuses(NO_SUCH, !hasHeap(c, i) || !hasHeap(c, j) || i == j)) {
            return NONE;
        }
        past.keep(now);
        Heaps here = now.rows[c];
        int upper = here.lift(Math.max(i, j));
        int height = upper + here.lift(Math.min(i, j));
        here.lay(height);
        return height;
    }

    public boolean undo() {
        if (refuses(NOTHING_THERE, past.acts == 0)) {
            return false;
        }
        past.returnTo(now);
        return true;
    }

    public int image() {
        if (refusesStore() || refuses(NO_ROOM, past.images >= IMAGES_KEPT)) {
            return NONE;
        }
        return past.keepImage(now);
    }

    public boolean back(int image) {
        if (refuses(NO_SUCH, image < 0 || image >= past.images)) {
            return false;
        }
        past.returnToImage(image, now);
        return true;
    }

    // ---- what is told

    public int led(int i) throws NoSuchElementException {
        int stillOnes = 0;
        for (int c = 0; c < told.cellars; c++) {
            if (staysSame(c)) {
                if (stillOnes == i) {
                    return c;
                }
                stillOnes++;
            }
        }
        throw new NoSuchElementException();
    }

    public int size(int what) {
        switch (what) {
            case 0:
                return told.hold;
            case 1:
                return told.sleeps;
            case 2:
                return told.cellars;
            case 3:
                return told.unsure;
            case 4:
                return told.seen;
            case 5:
                return now.nights;
            case 6:
                return now.allStones();
            case 7:
                return past.acts;
            case 8:
                return past.images;
            case 9:
                return tape.size;
            default:
                return NONE;
        }
    }

    public int trouble() {
        return lastTrouble;
    }

    // ---- refusals

    /** Notes the trouble, or that there is none as yet; whether the call is refused. */
    private boolean refuses(int number, boolean when) {
        lastTrouble = when ? number : 0;
        return when;
    }

    private boolean refusesStore() {
        return refuses(NO_SUCH, !hasStore());
    }

    private boolean refusesCellar(int c) {
        return refuses(NO_SUCH, !hasCellar(c));
    }

    private boolean refusesNumber(int number, int most) {
        return refuses(BAD_NUMBER, number < 0 || number > most);
    }

    private boolean hasStore() {
        return told.cellars > 0;
    }

    private boolean hasCellar(int c) {
        return c >= 0 && c < told.cellars;
    }

    private boolean hasHeap(int c, int i) {
        return hasCellar(c) && i >= 0 && i < now.rows[c].count;
    }

    // ---- nights to come, from now on

    private void begin(Walk someWalk, int c) {
        someWalk.begin(now.rows[c], told.laws[c], told.hold);
    }

    private Heaps behind(int c, int n) {
        begin(walk, c);
        walk.goOn(n);
        return walk.heaps;
    }

    private boolean staysSame(int c) {
        begin(walk, c);
        return walk.step();
    }

    private int roundLength(int c) {
        begin(walk, c);
        return walk.findRound();
    }

    /** The first night whose heaps come again behind so many nights, searched among nights 0 to 400. */
    private int firstOfRound(int c, int length) {
        if (length == NEVER) {
            return NEVER;
        }
        begin(walk, c);
        begin(otherWalk, c);
        otherWalk.goOn(length);
        for (int n = 0; n + length <= NIGHTS_SEARCHED; n++) {
            if (walk.heaps.isSame(otherWalk.heaps)) {
                return n;
            }
            walk.step();
            otherWalk.step();
        }
        return NEVER;
    }

    // ---- steward and mouse, each coming or staying

    private static int stewardHas(int cheese, boolean steward, boolean mouse) {
        if (steward) {
            return mouse ? -cheese : -1;
        }
        return mouse ? 0 : 1;
    }

    private static int mouseHas(boolean steward, boolean mouse) {
        if (steward) {
            return mouse ? 1 : 0;
        }
        return mouse ? 4 : 2;
    }

    private static boolean isRest(int cheese, boolean steward, boolean mouse) {
        return stewardHas(cheese, !steward, mouse) <= stewardHas(cheese, steward, mouse)
                && mouseHas(steward, !mouse) <= mouseHas(steward, mouse);
    }

    /** The heaps of one cellar, from the greatest on, and the stones that are held there. */
    private static final class Heaps {
        final int[] heights = new int[STONES];
        int count;
        int kept;

        void clear() {
            count = 0;
            kept = 0;
        }

        void copyFrom(Heaps other) {
            System.arraycopy(other.heights, 0, heights, 0, other.count);
            count = other.count;
            kept = other.kept;
        }

        boolean isAsHigh(Heaps other) {
            if (count != other.count) {
                return false;
            }
            for (int i = 0; i < count; i++) {
                if (heights[i] != other.heights[i]) {
                    return false;
                }
            }
            return true;
        }

        boolean isSame(Heaps other) {
            return kept == other.kept && isAsHigh(other);
        }

        int heightAt(int i) {
            return i >= 0 && i < count ? heights[i] : 0;
        }

        int higherThan(int height) {
            int higher = 0;
            while (higher < count && heights[higher] > height) {
                higher++;
            }
            return higher;
        }

        int inHeaps() {
            int sum = 0;
            for (int i = 0; i < count; i++) {
                sum += heights[i];
            }
            return sum;
        }

        int stones() {
            return inHeaps() + kept;
        }

        /** Lays a heap at its place by height; of no stones there is none. */
        void lay(int height) {
            if (height <= 0 || count >= heights.length) {
                return;
            }
            int at = count;
            while (at > 0 && heights[at - 1] < height) {
                heights[at] = heights[at - 1];
                at--;
            }
            heights[at] = height;
            count++;
        }

        /** Takes a whole heap away; its height. */
        int lift(int i) {
            if (i < 0 || i >= count) {
                return 0;
            }
            int height = heights[i];
            for (int k = i + 1; k < count; k++) {
                heights[k - 1] = heights[k];
            }
            count--;
            return height;
        }

        void pass(int law, int hold) {
            if (count == 0) {
                return;
            }
            if (law == STEWARD) {
                lay(takeOfEach());
            } else if (law == BANKER) {
                kept += takeOfEach();
                while (hold > 0 && kept >= hold) {
                    lay(hold);
                    kept -= hold;
                }
            } else if (law == MISER) {
                lay(takeOfEachHeight());
            } else {
                give(lift(0));
            }
        }

        private int takeOfEach() {
            int taken = count;
            for (int i = taken - 1; i >= 0; i--) {
                heights[i]--;
                if (heights[i] == 0) {
                    count--;
                }
            }
            return taken;
        }

        /** Takes of the last heap of each height, so that heaps stay in order. */
        private int takeOfEachHeight() {
            int taken = 0;
            for (int i = 0; i < count; i++) {
                if (i + 1 >= count || heights[i] > heights[i + 1]) {
                    heights[i]--;
                    taken++;
                }
            }
            if (count > 0 && heights[count - 1] == 0) {
                count--;
            }
            return taken;
        }

        /** Lays one on each heap, as far as the stones go, and the rest one by one: those are the least. */
        private void give(int stones) {
            int given = Math.min(stones, count);
            for (int i = 0; i < given; i++) {
                heights[i]++;
            }
            for (int left = stones - given; left > 0 && count < heights.length; left--) {
                heights[count] = 1;
                count++;
            }
        }
    }

    /** The heaps of all cellars at one time. */
    private static final class Cellars {
        final Heaps[] rows = new Heaps[CELLARS];
        int nights;

        Cellars() {
            for (int c = 0; c < CELLARS; c++) {
                rows[c] = new Heaps();
            }
        }

        void clear() {
            nights = 0;
            for (int c = 0; c < CELLARS; c++) {
                rows[c].clear();
            }
        }

        void copyFrom(Cellars other) {
            nights = other.nights;
            for (int c = 0; c < CELLARS; c++) {
                rows[c].copyFrom(other.rows[c]);
            }
        }

        int allStones() {
            int sum = 0;
            for (int c = 0; c < CELLARS; c++) {
                sum += rows[c].stones();
            }
            return sum;
        }
    }

    /** What a text tells. */
    private static final class Told {
        final Cellars start = new Cellars();
        final int[] laws = new int[CELLARS];
        final int[] unsureCellars = new int[CELLARS];
        final int[] unsureStones = new int[CELLARS];
        final int[] seenCellars = new int[SEEN_ROOM];
        final int[] seenNights = new int[SEEN_ROOM];
        final int[] seenHeaps = new int[SEEN_ROOM];
        int hold;
        int sleeps;
        int cellars;
        int unsure;
        int seen;

        void clear() {
            start.clear();
            hold = 0;
            sleeps = 0;
            cellars = 0;
            unsure = 0;
            seen = 0;
        }

        /** The place of a cellar among the unsure ones. */
        int unsurePlace(int c) {
            for (int u = 0; u < unsure; u++) {
                if (unsureCellars[u] == c) {
                    return u;
                }
            }
            return NONE;
        }

        boolean sawNight(int c, int night) {
            for (int s = 0; s < seen; s++) {
                if (seenCellars[s] == c && seenNights[s] == night) {
                    return true;
                }
            }
            return false;
        }
    }

    /** The tape, and the tokens of a text on it, one at a time. */
    private static final class Tape {
        static final int END = 0;
        static final int WORD = 1;
        static final int WHOLE = 2;
        static final int MARK = 3;
        static final int NO_TOKEN = 4;
        private static final int LONGEST_WORD = 8;
        private static final int LONGEST_WHOLE = 3;

        private final byte[] bytes = new byte[TAPE_ROOM];
        int size;
        int place;
        int kind;
        private int end;
        private int after;

        void append(int four) {
            for (int shift = 24; shift >= 0; shift -= 8) {
                if (size < bytes.length) {
                    bytes[size] = (byte) (four >> shift);
                    size++;
                }
            }
        }

        void start(int n) {
            end = Math.min(n, size);
            after = 0;
            step();
        }

        void step() {
            place = after;
            while (place < end && bytes[place] == ' ') {
                place++;
            }
            after = place;
            if (place >= end) {
                kind = END;
                return;
            }
            kind = kindOf(bytes[place]);
            after = place + 1;
            boolean runs = kind == WORD || kind == WHOLE;
            while (runs && after < end && kindOf(bytes[after]) == kind) {
                after++;
            }
            int longest = kind == WORD ? LONGEST_WORD : LONGEST_WHOLE;
            if (after - place > longest) {
                kind = NO_TOKEN;
            }
        }

        private static int kindOf(int sign) {
            if (sign >= 'a' && sign <= 'z') {
                return WORD;
            }
            if (sign >= '0' && sign <= '9') {
                return WHOLE;
            }
            return sign == ';' ? MARK : NO_TOKEN;
        }

        int whole() {
            int value = 0;
            for (int i = place; i < after; i++) {
                value = 10 * value + bytes[i] - '0';
            }
            return value;
        }

        int length() {
            return after - place;
        }

        boolean isWord(String word) {
            if (kind != WORD || after - place != word.length()) {
                return false;
            }
            for (int i = 0; i < word.length(); i++) {
                if (bytes[place + i] != word.charAt(i)) {
                    return false;
                }
            }
            return true;
        }

        /** Whether the token is the same word as one told at a place ahead of it. */
        boolean isWordAt(int from, int length) {
            if (kind != WORD || after - place != length || from < 0 || from + length > bytes.length) {
                return false;
            }
            for (int i = 0; i < length; i++) {
                if (bytes[place + i] != bytes[from + i]) {
                    return false;
                }
            }
            return true;
        }
    }

    /** Reads a text; each reading ends at the token of the first fault. */
    private static final class Reader {
        final Tape tape = new Tape();
        private final int[] namePlaces = new int[CELLARS];
        private final int[] nameLengths = new int[CELLARS];
        private Told told = new Told();
        private int number;
        private int named;
        private int fault;

        /** The fault of the first n bytes, at the tape's place, or 0: then what they tell can be handed over. */
        int read(int n) {
            told.clear();
            fault = 0;
            tape.start(n);
            boolean goesOn = readLine();
            for (int i = 0; i < TAPE_ROOM && goesOn && tape.kind == Tape.MARK; i++) {
                tape.step();
                goesOn = readLine();
            }
            if (goesOn && tape.kind != Tape.END) {
                fault = FORM;
            } else if (goesOn && told.cellars == 0) {
                fault = LACKS;
            }
            return fault;
        }

        /** What was read, against what nobody needs any more: it is room for the next reading. */
        Told handOver(Told old) {
            Told read = told;
            told = old;
            return read;
        }

        private boolean fail(int which) {
            fault = which;
            return false;
        }

        private boolean readLine() {
            if (tape.isWord("store")) {
                return told.hold == 0 ? readStore() : fail(AGAIN);
            }
            if (tape.isWord("cellar")) {
                return opensLine(told.cellars < CELLARS) && readCellar();
            }
            if (tape.isWord("unsure")) {
                return opensLine(true) && readUnsure();
            }
            if (tape.isWord("seen")) {
                return opensLine(told.seen < SEEN_ROOM) && readSeen();
            }
            return fail(FORM);
        }

        private boolean opensLine(boolean room) {
            if (!room) {
                return fail(MANY);
            }
            if (told.hold == 0) {
                return fail(LACKS);
            }
            tape.step();
            return true;
        }

        private boolean readStore() {
            tape.step();
            if (!readWord("hold") || !readWhole(2, 9)) {
                return false;
            }
            told.hold = number;
            if (!readWord("sleeps") || !readWhole(0, 100)) {
                return false;
            }
            told.sleeps = number;
            return true;
        }

        private boolean readCellar() {
            int c = told.cellars;
            if (!isName() || c >= CELLARS) {
                return fail(FORM);
            }
            if (findNamed() != NONE) {
                return fail(AGAIN);
            }
            namePlaces[c] = tape.place;
            nameLengths[c] = tape.length();
            tape.step();
            int law = lawHere();
            if (law == NONE) {
                return fail(FORM);
            }
            told.laws[c] = law;
            tape.step();
            if (!readHeaps(told.start.rows[c])) {
                return false;
            }
            told.cellars++;
            return true;
        }

        private boolean readHeaps(Heaps into) {
            if (tape.kind != Tape.WHOLE) {
                return fail(FORM);
            }
            for (int i = 0; i <= TOLD_HEAPS && tape.kind == Tape.WHOLE; i++) {
                int height = tape.whole();
                if (height < 1 || height > HIGHEST_LAID || into.inHeaps() + height > TOLD_STONES) {
                    return fail(BOUNDS);
                }
                if (into.count >= TOLD_HEAPS) {
                    return fail(MANY);
                }
                into.lay(height);
                tape.step();
            }
            return true;
        }

        private boolean readUnsure() {
            if (!readNamed()) {
                return false;
            }
            if (told.unsurePlace(named) != NONE || told.unsure >= CELLARS) {
                return fail(AGAIN);
            }
            tape.step();
            if (!readWhole(1, 9)) {
                return false;
            }
            told.unsureCellars[told.unsure] = named;
            told.unsureStones[told.unsure] = number;
            told.unsure++;
            return true;
        }

        private boolean readSeen() {
            if (!readNamed()) {
                return false;
            }
            tape.step();
            if (!readWord("night")) {
                return false;
            }
            if (tape.kind == Tape.WHOLE && told.sawNight(named, tape.whole())) {
                return fail(AGAIN);
            }
            if (!readWhole(0, 99)) {
                return false;
            }
            int night = number;
            if (!readWord("heaps") || !readWhole(0, STONES)) {
                return false;
            }
            if (told.seen < SEEN_ROOM) {
                told.seenCellars[told.seen] = named;
                told.seenNights[told.seen] = night;
                told.seenHeaps[told.seen] = number;
                told.seen++;
            }
            return true;
        }

        private boolean isName() {
            return tape.kind == Tape.WORD && !tape.isWord("store") && !tape.isWord("cellar")
                    && !tape.isWord("unsure") && !tape.isWord("seen");
        }

        private int findNamed() {
            for (int c = 0; c < told.cellars; c++) {
                if (tape.isWordAt(namePlaces[c], nameLengths[c])) {
                    return c;
                }
            }
            return NONE;
        }

        /** Looks up the name here; the token stays, as there may be other faults at it. */
        private boolean readNamed() {
            if (!isName()) {
                return fail(FORM);
            }
            named = findNamed();
            return named != NONE || fail(UNTOLD);
        }

        private int lawHere() {
            if (tape.isWord("steward")) {
                return STEWARD;
            }
            if (tape.isWord("banker")) {
                return BANKER;
            }
            if (tape.isWord("miser")) {
                return MISER;
            }
            return tape.isWord("giver") ? GIVER : NONE;
        }

        private boolean readWord(String word) {
            if (!tape.isWord(word)) {
                return fail(FORM);
            }
            tape.step();
            return true;
        }

        private boolean readWhole(int least, int most) {
            if (tape.kind != Tape.WHOLE) {
                return fail(FORM);
            }
            number = tape.whole();
            if (number < least || number > most) {
                return fail(BOUNDS);
            }
            tape.step();
            return true;
        }
    }

    /** The acts that can be undone, and the images. */
    private static final class Past {
        private final Cellars[] kept = new Cellars[ACTS_KEPT];
        private final Cellars[] pictures = new Cellars[IMAGES_KEPT];
        int acts;
        int images;
        private int oldest;

        Past() {
            for (int i = 0; i < ACTS_KEPT; i++) {
                kept[i] = new Cellars();
            }
            for (int i = 0; i < IMAGES_KEPT; i++) {
                pictures[i] = new Cellars();
            }
        }

        void forget() {
            acts = 0;
            images = 0;
        }

        /** Keeps how all is ahead of an act; the oldest one kept gives way. */
        Cellars keep(Cellars now) {
            if (acts == ACTS_KEPT) {
                oldest = (oldest + 1) % ACTS_KEPT;
                acts--;
            }
            Cellars before = kept[(oldest + acts) % ACTS_KEPT];
            before.copyFrom(now);
            acts++;
            return before;
        }

        void returnTo(Cellars now) {
            if (acts > 0) {
                acts--;
                now.copyFrom(kept[(oldest + acts) % ACTS_KEPT]);
            }
        }

        int keepImage(Cellars now) {
            if (images >= IMAGES_KEPT) {
                return NONE;
            }
            pictures[images].copyFrom(now);
            images++;
            return images - 1;
        }

        void returnToImage(int image, Cellars now) {
            if (image >= 0 && image < images) {
                now.copyFrom(pictures[image]);
                acts = 0;
            }
        }
    }

    /** Heaps that go on night by night; marks, set ever farther apart, show when they go round. */
    private static final class Walk {
        // A mark at night 511 meets each round of 400 nights or less that has begun by night 400.
        private static final int NIGHTS_TO_MEET = 1000;

        final Heaps heaps = new Heaps();
        private final Heaps mark = new Heaps();
        private int law;
        private int hold;
        private int sinceMark;
        private int nextMark;

        void begin(Heaps from, int ofLaw, int ofHold) {
            law = ofLaw;
            hold = ofHold;
            heaps.copyFrom(from);
            mark.copyFrom(from);
            sinceMark = 0;
            nextMark = 1;
        }

        /** A night goes by; whether all is as it was at the latest mark. */
        boolean step() {
            heaps.pass(law, hold);
            sinceMark++;
            if (heaps.isSame(mark)) {
                return true;
            }
            if (sinceMark >= nextMark) {
                mark.copyFrom(heaps);
                sinceMark = 0;
                nextMark *= 2;
            }
            return false;
        }

        /** Nights go by; whole rounds of them are left out. */
        void goOn(int nights) {
            for (int n = 1; n <= nights; n++) {
                if (step() && sinceMark > 0) {
                    int left = (nights - n) % sinceMark;
                    for (int i = 0; i < left; i++) {
                        heaps.pass(law, hold);
                    }
                    return;
                }
            }
        }

        /** How many nights a round has; NEVER if none is met. */
        int findRound() {
            for (int n = 0; n < NIGHTS_TO_MEET; n++) {
                if (step()) {
                    return sinceMark;
                }
            }
            return NEVER;
        }
    }

    /** Which unsure cellars may have had a heap more, by what was seen. */
    private static final class Guesses {
        private static final int WITHOUT = 1;
        private static final int WITH = 2;

        final int[] sets = new int[1 << CELLARS];
        int count;
        int firstNotSo;
        private final int[] may = new int[CELLARS];
        private final Heaps first = new Heaps();
        private boolean sureOnesSo;

        void work(Told told, Walk walk) {
            firstNotSo = NEVER;
            sureOnesSo = true;
            for (int u = 0; u < CELLARS; u++) {
                may[u] = WITHOUT | WITH;
            }
            for (int s = 0; s < told.seen; s++) {
                int u = told.unsurePlace(told.seenCellars[s]);
                boolean soWithout = isSo(told, s, 0, walk);
                boolean soWith = u != NONE && isSo(told, s, told.unsureStones[u], walk);
                note(s, u, soWithout, soWith);
            }
            count = 0;
            for (int set = 0; set < 1 << told.unsure; set++) {
                if (sureOnesSo && mayBe(set, told.unsure)) {
                    sets[count] = set;
                    count++;
                }
            }
        }

        private void note(int s, int u, boolean soWithout, boolean soWith) {
            if (!soWithout && firstNotSo == NEVER) {
                firstNotSo = s;
            }
            if (u == NONE) {
                sureOnesSo = sureOnesSo && soWithout;
                return;
            }
            if (!soWithout) {
                may[u] &= ~WITHOUT;
            }
            if (!soWith) {
                may[u] &= ~WITH;
            }
        }

        private boolean isSo(Told told, int s, int more, Walk walk) {
            int c = told.seenCellars[s];
            first.copyFrom(told.start.rows[c]);
            first.lay(more);
            walk.begin(first, told.laws[c], told.hold);
            walk.goOn(told.seenNights[s]);
            return walk.heaps.count == told.seenHeaps[s];
        }

        private boolean mayBe(int set, int unsure) {
            for (int u = 0; u < unsure; u++) {
                int needed = (set >> u & 1) == 1 ? WITH : WITHOUT;
                if ((may[u] & needed) == 0) {
                    return false;
                }
            }
            return true;
        }

        int inSome() {
            int some = 0;
            for (int i = 0; i < count; i++) {
                some |= sets[i];
            }
            return some;
        }

        int inAll() {
            int all = count > 0 ? sets[0] : 0;
            for (int i = 1; i < count; i++) {
                all &= sets[i];
            }
            return all;
        }

        /** How many sets are left at most if one unsure cellar is told. */
        int leftAtMost(int u) {
            int with = 0;
            for (int i = 0; i < count; i++) {
                with += sets[i] >> u & 1;
            }
            return Math.max(with, count - with);
        }

        int bestAsked(int unsure) {
            int best = NEVER;
            for (int u = 0; u < unsure && count > 0; u++) {
                if (best == NEVER || leftAtMost(u) < leftAtMost(best)) {
                    best = u;
                }
            }
            return best;
        }
    }

    /** Heaps as rows, one below the other. */
    private static final class Shapes {
        private final int[] powers = new int[STONES_ORDERED + 1];

        static int longestSquare(Heaps heaps) {
            int side = 0;
            while (side < heaps.count && heaps.heightAt(side) > side) {
                side++;
            }
            return side;
        }

        static int unlikeHeights(Heaps heaps) {
            int unlike = 0;
            for (int i = 0; i < heaps.count; i++) {
                if (isFirstOfHeight(heaps, i)) {
                    unlike++;
                }
            }
            return unlike;
        }

        private static boolean isFirstOfHeight(Heaps heaps, int i) {
            return i == 0 || heaps.heightAt(i) != heaps.heightAt(i - 1);
        }

        static int hookOf(Heaps heaps, int i, int j) {
            return heaps.heightAt(i) - j + heaps.higherThan(j) - i - 1;
        }

        /** The product of 1 to all stones by the product of all hooks, by powers of primes, as neither has room. */
        long countOrders(Heaps heaps) {
            for (int p = 0; p < powers.length; p++) {
                powers[p] = 0;
            }
            int stones = heaps.inHeaps();
            for (int factor = 2; factor <= stones; factor++) {
                countPrimes(factor, 1);
            }
            for (int i = 0; i < heaps.count; i++) {
                for (int j = 0; j < heaps.heightAt(i); j++) {
                    countPrimes(hookOf(heaps, i, j), -1);
                }
            }
            long product = 1;
            for (int p = 2; p < powers.length; p++) {
                for (int k = 0; k < powers[p]; k++) {
                    product *= p;
                }
            }
            return product;
        }

        private void countPrimes(int factor, int many) {
            int left = factor;
            for (int p = 2; p < powers.length && left > 1; p++) {
                while (left > 1 && left % p == 0) {
                    left /= p;
                    powers[p] += many;
                }
            }
        }

        static int inBoth(Heaps one, Heaps other) {
            int sum = 0;
            for (int i = 0; i < one.count; i++) {
                sum += Math.min(one.heightAt(i), other.heightAt(i));
            }
            return sum;
        }

        static boolean areMirrors(Heaps one, Heaps other) {
            if (one.heightAt(0) != other.count) {
                return false;
            }
            for (int j = 0; j < other.count; j++) {
                if (one.higherThan(j) != other.heightAt(j)) {
                    return false;
                }
            }
            return true;
        }

        /** A new heap has a stone of each other one that is left, and may have more, of heaps of one stone. */
        private static boolean canBeNew(Heaps heaps, int i) {
            return isFirstOfHeight(heaps, i) && heaps.heightAt(i) >= heaps.count - 1;
        }

        static int countSources(Heaps heaps) {
            if (heaps.count == 0) {
                return 1;
            }
            int found = 0;
            for (int i = 0; i < heaps.count; i++) {
                if (canBeNew(heaps, i)) {
                    found++;
                }
            }
            return found;
        }

        static int sourceHeight(Heaps heaps, int k, int i) {
            int ahead = 0;
            for (int fresh = 0; fresh < heaps.count; fresh++) {
                if (canBeNew(heaps, fresh)) {
                    if (ahead == k) {
                        return heightBefore(heaps, fresh, i);
                    }
                    ahead++;
                }
            }
            return 0;
        }

        private static int heightBefore(Heaps heaps, int fresh, int i) {
            if (i < heaps.count - 1) {
                return heaps.heightAt(i < fresh ? i : i + 1) + 1;
            }
            return i < heaps.heightAt(fresh) ? 1 : 0;
        }
    }

    /** Heaps counted, eaten, carried, levelled and summed. */
    private static final class Sums {
        private static final int MOST_EATEN = 3;

        private final int[] row = new int[STONES + 1];
        private final Heaps carried = new Heaps();

        /** In how many ways stones lie in heaps that are no higher than told. */
        int countWays(int stones, int highest) {
            clearRow(0);
            row[0] = 1;
            for (int height = 1; height <= highest; height++) {
                for (int n = height; n <= stones && n < row.length; n++) {
                    row[n] += row[n - height];
                }
            }
            return rowAt(stones);
        }

        int countUnlikeWays(int stones) {
            clearRow(0);
            row[0] = 1;
            for (int height = 1; height <= stones; height++) {
                for (int n = Math.min(stones, STONES); n >= height; n--) {
                    row[n] += row[n - height];
                }
            }
            return rowAt(stones);
        }

        private void clearRow(int value) {
            for (int n = 0; n < row.length; n++) {
                row[n] = value;
            }
        }

        private int rowAt(int n) {
            return n >= 0 && n < row.length ? row[n] : 0;
        }

        /** Who has to eat loses just where this is 0: a heap counts its rest by 4, one more than is eaten at most. */
        static int eatersBalance(Heaps heaps) {
            int balance = 0;
            for (int i = 0; i < heaps.count; i++) {
                balance ^= heaps.heightAt(i) % (MOST_EATEN + 1);
            }
            return balance;
        }

        /** The fewest to eat of a heap by which the other one loses. */
        static int winningBite(Heaps heaps, int i) {
            int height = heaps.heightAt(i);
            int others = eatersBalance(heaps) ^ height % (MOST_EATEN + 1);
            for (int bite = 1; bite <= MOST_EATEN && bite <= height; bite++) {
                if ((height - bite) % (MOST_EATEN + 1) == others) {
                    return bite;
                }
            }
            return NEVER;
        }

        /** Joins the two least again and again. */
        int leastCarried(Heaps heaps) {
            carried.copyFrom(heaps);
            int sum = 0;
            for (int joins = 1; joins < heaps.count; joins++) {
                int least = carried.lift(carried.count - 1);
                int both = least + carried.lift(carried.count - 1);
                carried.lay(both);
                sum += both;
            }
            return sum;
        }

        static int fewestLaidOver(Heaps heaps) {
            if (heaps.count == 0) {
                return 0;
            }
            int stones = heaps.inHeaps();
            int low = stones / heaps.count;
            int highOnes = stones % heaps.count;
            int laidOver = 0;
            for (int i = 0; i < heaps.count; i++) {
                int due = i < highOnes ? low + 1 : low;
                laidOver += Math.max(0, heaps.heightAt(i) - due);
            }
            return laidOver;
        }

        int fewestThatMake(Heaps heaps, int stones) {
            fillFewest(heaps);
            return rowAt(stones);
        }

        int lighterPart(Heaps heaps) {
            fillFewest(heaps);
            int part = heaps.inHeaps() / 2;
            while (part > 0 && rowAt(part) == NEVER) {
                part--;
            }
            return part;
        }

        /** For each number of stones the fewest heaps that have just so many together. */
        private void fillFewest(Heaps heaps) {
            clearRow(NEVER);
            row[0] = 0;
            for (int i = 0; i < heaps.count; i++) {
                int height = heaps.heightAt(i);
                for (int n = STONES; n >= height; n--) {
                    int before = rowAt(n - height);
                    if (before != NEVER && (row[n] == NEVER || before + 1 < row[n])) {
                        row[n] = before + 1;
                    }
                }
            }
        }
    }

    /** Nights that are slept by chance, each as likely as told in a hundred. */
    private static final class Chance {
        /** How much, of 100 to the power of all nights, falls to ends with so many heaps or more. */
        static long oddsWeighed(Walk walk, int sleeps, int nights, int many) {
            long sum = 0;
            for (int awake = 0; awake <= nights; awake++) {
                if (walk.heaps.count >= many) {
                    sum += weight(sleeps, nights, awake);
                }
                walk.step();
            }
            return sum;
        }

        static long heapsWeighed(Walk walk, int sleeps, int nights) {
            long sum = 0;
            for (int awake = 0; awake <= nights; awake++) {
                sum += walk.heaps.count * weight(sleeps, nights, awake);
                walk.step();
            }
            return sum;
        }

        private static long weight(int sleeps, int nights, int awake) {
            return choices(nights, awake) * power(100 - sleeps, awake) * power(sleeps, nights - awake);
        }

        private static long choices(int all, int some) {
            long found = 1;
            for (int i = 0; i < some; i++) {
                found = found * (all - i) / (i + 1);
            }
            return found;
        }

        static long power(int base, int exponent) {
            long product = 1;
            for (int i = 0; i < exponent; i++) {
                product *= base;
            }
            return product;
        }

        static long lowestTerms(long top, long bottom, boolean lower) {
            long divisor = commonDivisor(top, bottom);
            if (divisor == 0) {
                return 0;
            }
            return (lower ? bottom : top) / divisor;
        }

        private static long commonDivisor(long one, long other) {
            long great = one;
            long small = other;
            for (int i = 0; i < 200 && small != 0; i++) {
                long rest = great % small;
                great = small;
                small = rest;
            }
            return great;
        }
    }
}
