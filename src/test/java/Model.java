import java.util.ArrayDeque;
import java.util.ArrayList;
import java.util.Comparator;
import java.util.List;
import java.util.TreeSet;

/**
 * The document told a second time, with lists and sets of the library and no care for cost,
 * so that an error in GainsaidOnce is unlikely to stand here too.
 */
final class Model {
    static final int NONE = -1, UNKNOWN = -1000000001, OUTSIDE = -1000000002, NOT = -1000000003, FULL = -1000000004;

    private static final class Snap {
        int rounds;
        int months;
        int law = NONE;
        TreeSet<Integer> holds = new TreeSet<>();
        TreeSet<Integer> hoarse = new TreeSet<>();
        TreeSet<Integer> kept = new TreeSet<>();
        TreeSet<Integer> colds = new TreeSet<>();
        List<Integer> places = new ArrayList<>();

        Snap copy() {
            Snap s = new Snap();
            s.rounds = rounds;
            s.months = months;
            s.law = law;
            s.holds.addAll(holds);
            s.hoarse.addAll(hoarse);
            s.kept.addAll(kept);
            s.colds.addAll(colds);
            s.places.addAll(places);
            return s;
        }
    }

    /** What came of a crying. */
    private static final class Outcome {
        TreeSet<Integer> decree = new TreeSet<>();
        TreeSet<Integer> hoarse = new TreeSet<>();
        TreeSet<Integer> holds = new TreeSet<>();
        int spoke;
    }

    private record Hearer(int place, TreeSet<Integer> pinches, int says) { }

    private record Token(int at, char kind, String figures) { }

    private record Sight(int decree, int k, int spoke) { }

    private String text = "";
    private int faultAt = NONE;
    private TreeSet<Integer> clauses = new TreeSet<>();
    private List<Integer> beers = new ArrayList<>();
    private List<Hearer> hearers = new ArrayList<>();
    private Snap now = new Snap();
    private final ArrayDeque<Snap> past = new ArrayDeque<>();
    private final Snap[] images = new Snap[2];
    private final long[] imageSeeds = new long[2];
    private final List<Sight> seen = new ArrayList<>();
    private final List<Integer> book = new ArrayList<>();
    private long seed;

    private static int number(Iterable<Integer> set) {
        int n = 0;
        for (int i : set) {
            n += 1 << i;
        }
        return n;
    }

    private static TreeSet<Integer> setOf(int n) {
        TreeSet<Integer> set = new TreeSet<>();
        for (int i = 0; i < 32; i++) {
            if ((n >>> i & 1) == 1) {
                set.add(i);
            }
        }
        return set;
    }

    // ---- the town

    int feed(int letter) {
        if (letter < 0 || letter > 255) {
            return OUTSIDE;
        }
        if (text.length() == 230) {
            return FULL;
        }
        text += (char) letter;
        return text.length();
    }

    private List<Token> tokens(String t) {
        List<Token> list = new ArrayList<>();
        int i = 0;
        while (i < t.length()) {
            char c = t.charAt(i);
            int j = i + 1;
            if (c >= '0' && c <= '9') {
                while (j < t.length() && t.charAt(j) >= '0' && t.charAt(j) <= '9') {
                    j++;
                }
                list.add(new Token(i, '#', t.substring(i, j)));
            } else if (c != ' ') {
                list.add(new Token(i, c, ""));
            }
            i = j;
        }
        list.add(new Token(t.length(), '$', ""));
        return list;
    }

    int town() {
        String t = text;
        text = "";
        TreeSet<Integer> newClauses = new TreeSet<>();
        List<Integer> newBeers = new ArrayList<>();
        TreeSet<Integer> newColds = new TreeSet<>();
        List<Hearer> newHearers = new ArrayList<>();
        List<Token> list = tokens(t);
        int i = 0;
        // A sign '$' in the text itself is a letter like any other; only the last token is the end.
        while (i < list.size() - 1) {
            Token word = list.get(i);
            boolean isFirst = i == 0;
            int fault = 0;
            if (isFirst ? word.kind != 't' : "tch".indexOf(word.kind) < 0) {
                fault = 1;
            } else if (!isFirst && word.kind == 't' || word.kind == 'c' && newBeers.size() == 8
                    || word.kind == 'h' && newHearers.size() == 9) {
                fault = 3;
            }
            if (fault != 0) {
                faultAt = word.at;
                return -10 - fault;
            }
            int[][] bounds = word.kind == 't' ? new int[][] {{1, 255}}
                    : word.kind == 'c' ? new int[][] {{0, 99}, {0, 1}}
                    : new int[][] {{0, newBeers.size() - 1}, {0, 255}, {0, 8}};
            int[] values = new int[bounds.length];
            for (int b = 0; b <= bounds.length; b++) {
                Token token = list.get(++i);
                boolean isEnd = i == list.size() - 1;
                if (isEnd || token.kind != (b == bounds.length ? ';' : '#')) {
                    fault = 1;
                } else if (b < bounds.length) {
                    fault = token.figures.length() > 3 ? 2 : 0;
                    if (fault == 0) {
                        values[b] = Integer.parseInt(token.figures);
                        fault = values[b] < bounds[b][0] || values[b] > bounds[b][1] ? 2 : 0;
                    }
                }
                if (fault != 0) {
                    faultAt = token.at;
                    return -10 - fault;
                }
            }
            i++;
            if (word.kind == 't') {
                newClauses = setOf(values[0]);
            } else if (word.kind == 'c') {
                if (values[1] == 1) {
                    newColds.add(newBeers.size());
                }
                newBeers.add(values[0]);
            } else {
                newHearers.add(new Hearer(values[0], setOf(values[1]), values[2]));
            }
        }
        faultAt = NONE;
        clauses = newClauses;
        beers = newBeers;
        hearers = newHearers;
        now = new Snap();
        now.colds = newColds;
        for (Hearer h : hearers) {
            now.places.add(h.place);
        }
        past.clear();
        images[0] = null;
        images[1] = null;
        seen.clear();
        book.clear();
        return beers.size();
    }

    int fault() {
        return faultAt;
    }

    int told(int what) {
        if (what < 0 || what > 13) {
            return OUTSIDE;
        }
        int[] all = {number(clauses), beers.size(), hearers.size(), text.length(), now.rounds, now.months, now.law,
            number(now.holds), number(now.hoarse), number(now.kept), number(now.colds), seen.size(), book.size(),
            past.size()};
        return all[what];
    }

    private boolean noHearer(int h) {
        return h < 0 || h >= hearers.size();
    }

    private boolean noCorner(int k) {
        return k < 0 || k >= beers.size();
    }

    private boolean noDecree(int d) {
        return !clauses.containsAll(setOf(d));
    }

    int hearer(int h, int what) {
        if (noHearer(h)) {
            return UNKNOWN;
        }
        if (what < 0 || what > 4) {
            return OUTSIDE;
        }
        Hearer of = hearers.get(h);
        int[] all = {now.places.get(h), number(of.pinches), of.says == 8 ? NONE : of.says,
            now.hoarse.contains(h) ? 1 : 0, now.kept.contains(h) ? 1 : 0};
        return all[what];
    }

    int corner(int k, int what) {
        if (noCorner(k)) {
            return UNKNOWN;
        }
        if (what < 0 || what > 2) {
            return OUTSIDE;
        }
        int there = 0;
        for (int h = 0; h < hearers.size(); h++) {
            there += now.places.get(h) == k ? 1 << h : 0;
        }
        return what == 0 ? beers.get(k) : what == 1 ? (now.colds.contains(k) ? 1 : 0) : there;
    }

    // ---- deeds

    private Outcome before(int decree) {
        Outcome o = new Outcome();
        o.decree = setOf(decree);
        o.hoarse.addAll(now.hoarse);
        return o;
    }

    /** One corner; the number of all hearers stands for the liar. */
    private void read(Outcome o, int k, TreeSet<Integer> besides, boolean liar) {
        List<Integer> speakers = new ArrayList<>();
        for (int reading = 0; reading < 2 && speakers.isEmpty(); reading++) {
            if (reading == 1 && !now.colds.contains(k)) {
                break;
            }
            for (int h = 0; h < hearers.size(); h++) {
                TreeSet<Integer> common = new TreeSet<>(o.decree);
                common.retainAll(hearers.get(h).pinches);
                boolean silent = now.kept.contains(h) || besides.contains(h) || reading == 0 && o.hoarse.contains(h);
                if (now.places.get(h) == k && !silent && !common.isEmpty()) {
                    speakers.add(h);
                }
            }
            if (liar && !o.decree.isEmpty()) {
                speakers.add(hearers.size());
            }
        }
        int n = speakers.size();
        o.spoke += n;
        if (n % 2 == 1) {
            o.holds.add(k);
            int first = speakers.get(0);
            TreeSet<Integer> common = new TreeSet<>(o.decree);
            if (first < hearers.size()) {
                common.retainAll(hearers.get(first).pinches);
            }
            o.decree.remove(common.first());
            if (first < hearers.size() && clauses.contains(hearers.get(first).says)) {
                o.decree.add(hearers.get(first).says);
            }
        } else if (n > 0) {
            TreeSet<Integer> opposite = new TreeSet<>(clauses);
            opposite.removeAll(o.decree);
            o.decree = opposite;
        }
        for (int h : speakers) {
            if (h < hearers.size()) {
                o.hoarse.add(h);
            }
        }
    }

    private Outcome round(int decree, int k, int way, TreeSet<Integer> besides, TreeSet<Integer> liars) {
        Outcome o = before(decree);
        for (int i = 0; i < beers.size(); i++) {
            int c = Math.floorMod(way == 1 ? k + i : k - i, beers.size());
            read(o, c, besides, liars.contains(c));
        }
        return o;
    }

    private Outcome round(int decree, int k, int way) {
        return round(decree, k, way, new TreeSet<>(), new TreeSet<>());
    }

    private void remember() {
        past.addLast(now.copy());
        if (past.size() > 30) {
            past.removeFirst();
        }
    }

    private void doRound(int decree, int k, int way) {
        Outcome o = round(decree, k, way);
        now.rounds++;
        now.law = number(o.decree);
        now.holds = o.holds;
        now.hoarse = o.hoarse;
    }

    int cry(int decree, int k, int way) {
        if (noDecree(decree) || noCorner(k)) {
            return UNKNOWN;
        }
        if (way != 0 && way != 1) {
            return OUTSIDE;
        }
        if (now.rounds > 9000) {
            return FULL;
        }
        remember();
        doRound(decree, k, way);
        return now.law;
    }

    private void doMonth() {
        now.months++;
        now.hoarse = new TreeSet<>();
    }

    int month() {
        if (clauses.isEmpty()) {
            return NOT;
        }
        if (now.months > 9000) {
            return FULL;
        }
        remember();
        int n = now.hoarse.size();
        doMonth();
        return n;
    }

    private static int change(TreeSet<Integer> set, int i, boolean is) {
        int was = set.contains(i) ? 1 : 0;
        if (is) {
            set.add(i);
        } else {
            set.remove(i);
        }
        return was;
    }

    int keepIn(int h, boolean is) {
        if (noHearer(h)) {
            return UNKNOWN;
        }
        remember();
        return change(now.kept, h, is);
    }

    int move(int h, int k) {
        if (noHearer(h) || noCorner(k)) {
            return UNKNOWN;
        }
        remember();
        return now.places.set(h, k);
    }

    int cold(int k, boolean is) {
        if (noCorner(k)) {
            return UNKNOWN;
        }
        remember();
        return change(now.colds, k, is);
    }

    private int draw(int n) {
        seed = (seed * 1103515245L + 12345L) % (1L << 31);
        return (int) (seed / 65536 % n);
    }

    int drift(int n) {
        if (n < 1 || n > 20) {
            return OUTSIDE;
        }
        if (clauses.isEmpty()) {
            return NOT;
        }
        if (now.rounds > 9000 || now.months > 9000) {
            return FULL;
        }
        for (int m = 0; m < n; m++) {
            remember();
            if (!beers.isEmpty()) {
                TreeSet<Integer> decree = setOf(draw(256));
                decree.retainAll(clauses);
                int k = draw(beers.size());
                doRound(number(decree), k, draw(2));
            }
            doMonth();
        }
        return now.law;
    }

    int undo(int n) {
        if (n < 1 || n > 30) {
            return OUTSIDE;
        }
        if (n > past.size()) {
            return NOT;
        }
        for (int i = 0; i < n; i++) {
            now = past.removeLast();
        }
        return now.rounds;
    }

    // ---- tried

    int would(int decree, int k, int way, int what) {
        if (noDecree(decree) || noCorner(k)) {
            return UNKNOWN;
        }
        if (way < 0 || way > 1 || what < 0 || what > 2) {
            return OUTSIDE;
        }
        Outcome o = round(decree, k, way);
        return what == 0 ? number(o.decree) : what == 1 ? number(o.holds) : o.spoke;
    }

    private List<Integer> fewSets() {
        List<Integer> list = new ArrayList<>();
        for (int set = 0; set < 1 << hearers.size(); set++) {
            TreeSet<Integer> who = setOf(set);
            if (who.size() <= 2 && who.stream().noneMatch(now.kept::contains)) {
                list.add(set);
            }
        }
        list.sort(Comparator.comparingInt((Integer s) -> Integer.bitCount(s)).thenComparingInt(s -> s));
        return list;
    }

    int bestRound(int decree, int must, int what) {
        if (noDecree(decree) || noDecree(must)) {
            return UNKNOWN;
        }
        if (what < 0 || what > 1) {
            return OUTSIDE;
        }
        for (int set : fewSets()) {
            for (int k = 0; k < beers.size(); k++) {
                for (int way = 0; way < 2; way++) {
                    Outcome o = round(decree, k, way, setOf(set), new TreeSet<>());
                    if (o.holds.size() == beers.size() && o.decree.containsAll(setOf(must))) {
                        return what == 0 ? 2 * k + way : set;
                    }
                }
            }
        }
        return NONE;
    }

    int began(int law, int k, int way, int i) {
        if (noDecree(law) || noCorner(k)) {
            return UNKNOWN;
        }
        if (way < 0 || way > 1) {
            return OUTSIDE;
        }
        List<Integer> fitting = new ArrayList<>();
        TreeSet<Integer> sure = new TreeSet<>(clauses);
        for (int d = 0; d < 256; d++) {
            if (!noDecree(d) && number(round(d, k, way).decree) == law) {
                fitting.add(d);
                sure.retainAll(setOf(d));
            }
        }
        if (i == -1) {
            return fitting.size();
        }
        if (i == -2) {
            return fitting.isEmpty() ? 0 : number(sure);
        }
        return i >= 0 && i < fitting.size() ? fitting.get(i) : NONE;
    }

    int passed() {
        TreeSet<Integer> corners = new TreeSet<>();
        for (int k = 0; k < beers.size(); k++) {
            for (int d = 0; d < 256; d++) {
                if (!noDecree(d)) {
                    Outcome o = before(d);
                    read(o, k, new TreeSet<>(), false);
                    corners.addAll(o.holds);
                }
            }
        }
        return number(corners);
    }

    int hired(int decree, int k, int way, int what) {
        if (noDecree(decree) || noCorner(k)) {
            return UNKNOWN;
        }
        if (way < 0 || way > 1 || what < 0 || what > 1) {
            return OUTSIDE;
        }
        List<int[]> fitting = new ArrayList<>();
        for (int set = 0; set < 1 << beers.size(); set++) {
            if (round(decree, k, way, new TreeSet<>(), setOf(set)).holds.size() == beers.size()) {
                fitting.add(new int[] {setOf(set).stream().mapToInt(beers::get).sum(), set});
            }
        }
        fitting.sort(Comparator.comparingInt((int[] f) -> f[0]).thenComparingInt(f -> f[1]));
        return fitting.isEmpty() ? NONE : fitting.get(0)[what];
    }

    int spoilt(int decree, int k, int way, int what) {
        if (noDecree(decree) || noCorner(k)) {
            return UNKNOWN;
        }
        if (way < 0 || way > 1 || what < 0 || what > 1) {
            return OUTSIDE;
        }
        List<int[]> all = new ArrayList<>();
        for (int h = -1; h < hearers.size(); h++) {
            if (!now.kept.contains(h)) {
                TreeSet<Integer> besides = new TreeSet<>();
                if (h >= 0) {
                    besides.add(h);
                }
                all.add(new int[] {round(decree, k, way, besides, new TreeSet<>()).holds.size(), h});
            }
        }
        all.sort(Comparator.comparingInt((int[] f) -> f[0]).thenComparingInt(f -> f[1]));
        return all.get(0)[what];
    }

    int odds(int n, int q) {
        if (n < 0 || n > 60 || q < 0 || q > 100) {
            return OUTSIDE;
        }
        long v = 1000000000L;
        for (int m = 0; m < n; m++) {
            for (int k = 0; k < beers.size(); k++) {
                v = v * (100 - q) / 100;
            }
        }
        return (int) v;
    }

    // ---- what was seen

    int see(int decree, int k, int spoke) {
        if (noDecree(decree) || noCorner(k)) {
            return UNKNOWN;
        }
        if (spoke < 0 || spoke > 9) {
            return OUTSIDE;
        }
        if (seen.size() == 6) {
            return FULL;
        }
        seen.add(new Sight(decree, k, spoke));
        return seen.size();
    }

    private boolean fits(int set) {
        for (Sight s : seen) {
            Outcome o = before(s.decree);
            read(o, s.k, setOf(set), false);
            if (o.spoke != s.spoke) {
                return false;
            }
        }
        return true;
    }

    int behind(int i) {
        List<Integer> sets = new ArrayList<>();
        for (int set : fewSets()) {
            if (fits(set)) {
                sets.add(set);
            }
        }
        if (i == -1) {
            return sets.size();
        }
        if (i != -2) {
            return i >= 0 && i < sets.size() ? sets.get(i) : NONE;
        }
        int best = NONE;
        int least = 0;
        for (int h = 0; h < hearers.size(); h++) {
            int in = 0;
            for (int set : sets) {
                in += setOf(set).contains(h) ? 1 : 0;
            }
            int out = sets.size() - in;
            if (in > 0 && out > 0 && (best == NONE || Math.max(in, out) < least)) {
                best = h;
                least = Math.max(in, out);
            }
        }
        return best;
    }

    int write(int law) {
        if (law < 0 || law > 255) {
            return OUTSIDE;
        }
        if (book.size() == 20) {
            return FULL;
        }
        book.add(law);
        return book.size();
    }

    int judge() {
        for (int i = 0; i < book.size(); i++) {
            if (book.get(i) != now.law) {
                return i;
            }
        }
        return NONE;
    }

    int tear() {
        int n = seen.size() + book.size();
        seen.clear();
        book.clear();
        return n;
    }

    // ---- images

    int seed(int v) {
        if (v < 0) {
            return OUTSIDE;
        }
        int was = (int) seed;
        seed = v;
        return was;
    }

    int keep(int i) {
        if (i != 0 && i != 1) {
            return UNKNOWN;
        }
        images[i] = now.copy();
        imageSeeds[i] = seed;
        past.clear();
        return 1;
    }

    int goBack(int i) {
        if (i != 0 && i != 1) {
            return UNKNOWN;
        }
        if (images[i] == null) {
            return NOT;
        }
        now = images[i].copy();
        seed = imageSeeds[i];
        past.clear();
        return 1;
    }
}
