import java.util.ArrayList;
import java.util.HashMap;
import java.util.HashSet;
import java.util.List;
import java.util.Map;
import java.util.Set;
import java.util.regex.Matcher;
import java.util.regex.Pattern;

/** A text's tokens, its first fault, and what it tells, found by a pattern of tokens and a look at each line. */
final class NaiveStore {
    record Token(char sort, String text, int place) {
        int whole() {
            return Integer.parseInt(text);
        }
    }

    record Fault(int place, int number) {
    }

    record Seen(int cellar, int night, int heaps) {
    }

    private static final String NAME = "[HPLNKW]";
    private static final String LINE = "(SH9P9|C" + NAME + "L9+|U" + NAME + "9|E" + NAME + "N9K9)";
    private static final Pattern STORE = Pattern.compile(LINE + "(;" + LINE + ")*");
    private static final Pattern TOKEN = Pattern.compile("[a-z]+|[0-9]+|;|[^ ]", Pattern.DOTALL);
    private static final Map<String, Character> WORDS = Map.of("store", 'S', "hold", 'H', "sleeps", 'P', "cellar", 'C',
            "unsure", 'U', "seen", 'E', "night", 'N', "heaps", 'K');
    private static final List<String> LAWS = List.of("steward", "banker", "miser", "giver");

    final List<Naive.State> start = new ArrayList<>();
    final List<Integer> laws = new ArrayList<>();
    final List<Integer> unsure = new ArrayList<>();
    final List<Integer> more = new ArrayList<>();
    final List<Seen> seen = new ArrayList<>();
    int hold;
    int sleeps;
    Fault fault;

    private final List<Fault> faults = new ArrayList<>();
    private final Map<String, Integer> names = new HashMap<>();
    private final Set<String> nightsSeen = new HashSet<>();
    private int cellarLines;
    private int seenLines;
    private int storeLines;

    NaiveStore(String text) {
        List<Token> tokens = tokens(text);
        List<Token> sound = soundPart(tokens, text.length());
        List<Token> line = new ArrayList<>();
        for (Token token : sound) {
            if (token.sort() == ';') {
                lookAt(line);
                line = new ArrayList<>();
            } else {
                line.add(token);
            }
        }
        lookAt(line);
        if (names.isEmpty() && cellarLines == 0) {
            faults.add(new Fault(text.length(), 6));
        }
        for (Fault one : faults) {
            if (fault == null || one.place() < fault.place()
                    || one.place() == fault.place() && one.number() < fault.number()) {
                fault = one;
            }
        }
    }

    private static List<Token> tokens(String text) {
        List<Token> tokens = new ArrayList<>();
        Matcher matcher = TOKEN.matcher(text);
        while (matcher.find()) {
            tokens.add(new Token(sortOf(matcher.group()), matcher.group(), matcher.start()));
        }
        return tokens;
    }

    private static char sortOf(String token) {
        char first = token.charAt(0);
        if (first >= 'a' && first <= 'z') {
            char word = LAWS.contains(token) ? 'L' : 'W';
            return token.length() > 8 ? '!' : WORDS.getOrDefault(token, word);
        }
        if (first >= '0' && first <= '9') {
            return token.length() > 3 ? '!' : '9';
        }
        return first == ';' ? ';' : '!';
    }

    /** The tokens ahead of the first with which no store goes on. */
    private List<Token> soundPart(List<Token> tokens, int end) {
        StringBuilder sorts = new StringBuilder();
        for (int i = 0; i < tokens.size(); i++) {
            sorts.append(tokens.get(i).sort());
            Matcher matcher = STORE.matcher(sorts);
            if (!matcher.matches() && !matcher.hitEnd()) {
                faults.add(new Fault(tokens.get(i).place(), 1));
                return tokens.subList(0, i);
            }
        }
        if (!STORE.matcher(sorts).matches()) {
            faults.add(new Fault(end, 1));
        }
        return tokens;
    }

    private void lookAt(List<Token> line) {
        if (line.isEmpty()) {
            return;
        }
        Token first = line.get(0);
        if (first.sort() != 'S' && storeLines == 0) {
            faults.add(new Fault(first.place(), 6));
        }
        switch (first.sort()) {
            case 'S' -> lookAtStore(line);
            case 'C' -> lookAtCellar(line);
            case 'U' -> lookAtUnsure(line);
            default -> lookAtSeen(line);
        }
    }

    private boolean bounded(List<Token> line, int i, int least, int most) {
        if (i >= line.size()) {
            return false;
        }
        if (line.get(i).whole() < least || line.get(i).whole() > most) {
            faults.add(new Fault(line.get(i).place(), 4));
        }
        return true;
    }

    private void lookAtStore(List<Token> line) {
        storeLines++;
        if (storeLines > 1) {
            faults.add(new Fault(line.get(0).place(), 3));
        } else {
            hold = bounded(line, 2, 2, 9) ? line.get(2).whole() : 0;
            sleeps = bounded(line, 4, 0, 100) ? line.get(4).whole() : 0;
        }
    }

    private void lookAtCellar(List<Token> line) {
        cellarLines++;
        if (cellarLines > 4) {
            faults.add(new Fault(line.get(0).place(), 5));
        }
        if (line.size() > 1 && names.putIfAbsent(line.get(1).text(), cellarLines - 1) != null) {
            faults.add(new Fault(line.get(1).place(), 3));
        }
        if (line.size() > 2) {
            laws.add(LAWS.indexOf(line.get(2).text()));
        }
        List<Integer> heaps = new ArrayList<>();
        for (int i = 3; bounded(line, i, 1, 30); i++) {
            heaps.add(line.get(i).whole());
            if (Naive.sum(heaps) > 40) {
                faults.add(new Fault(line.get(i).place(), 4));
            }
            if (heaps.size() > 8) {
                faults.add(new Fault(line.get(i).place(), 5));
            }
        }
        start.add(new Naive.State(Naive.sorted(heaps), 0));
    }

    private int named(List<Token> line) {
        if (line.size() < 2) {
            return -1;
        }
        Integer c = names.get(line.get(1).text());
        if (c == null) {
            faults.add(new Fault(line.get(1).place(), 2));
            return -1;
        }
        return c;
    }

    private void lookAtUnsure(List<Token> line) {
        int c = named(line);
        if (c >= 0 && unsure.contains(c)) {
            faults.add(new Fault(line.get(1).place(), 3));
        }
        unsure.add(c);
        more.add(bounded(line, 2, 1, 9) ? line.get(2).whole() : 0);
    }

    private void lookAtSeen(List<Token> line) {
        seenLines++;
        if (seenLines > 6) {
            faults.add(new Fault(line.get(0).place(), 5));
        }
        int c = named(line);
        if (bounded(line, 3, 0, 99) && c >= 0 && !nightsSeen.add(c + " " + line.get(3).whole())) {
            faults.add(new Fault(line.get(3).place(), 3));
        }
        if (bounded(line, 5, 0, 60)) {
            seen.add(new Seen(c, line.get(3).whole(), line.get(5).whole()));
        }
    }

    /** Whether a night seen is so if just this set of unsure cellars had a heap more. */
    boolean isSo(Seen one, int set) {
        List<Integer> heaps = new ArrayList<>(start.get(one.cellar()).heaps());
        int u = unsure.indexOf(one.cellar());
        if (u >= 0 && (set >> u & 1) == 1) {
            heaps.add(more.get(u));
        }
        Naive.State first = new Naive.State(Naive.sorted(heaps), 0);
        return Naive.nights(first, laws.get(one.cellar()), hold, one.night()).heaps().size() == one.heaps();
    }

    List<Integer> fits() {
        List<Integer> fits = new ArrayList<>();
        for (int set = 0; set < 1 << unsure.size(); set++) {
            final int which = set;
            if (seen.stream().allMatch(one -> isSo(one, which))) {
                fits.add(set);
            }
        }
        return fits;
    }

    int judge() {
        for (int s = 0; s < seen.size(); s++) {
            if (!isSo(seen.get(s), 0)) {
                return s;
            }
        }
        return -2;
    }

    /** The unsure cellar to ask, and how many sets are left at most then; -2, -2. */
    int[] ask() {
        int[] best = {-2, -2};
        List<Integer> fits = fits();
        for (int u = 0; u < unsure.size() && !fits.isEmpty(); u++) {
            final int bit = 1 << u;
            int with = (int) fits.stream().filter(set -> (set & bit) != 0).count();
            int left = Math.max(with, fits.size() - with);
            if (best[0] == -2 || left < best[1]) {
                best = new int[] {u, left};
            }
        }
        return best;
    }
}
