import java.util.ArrayList;
import java.util.Collections;
import java.util.HashMap;
import java.util.List;
import java.util.Map;
import java.util.TreeMap;

/**
 * The document once more, written the slow way with lists and real pockets, every state kept
 * whole and nothing shared with CardPasses, so that both can be asked the same.
 */
public final class Model {
    private static final String LETTERS = "cxwdtm";

    private static final class State {
        List<Integer> kinds = new ArrayList<>();
        List<List<Integer>> figures = new ArrayList<>();
        List<Integer> lie = new ArrayList<>();
        int passes = 0;

        State twin() {
            State s = new State();
            s.kinds.addAll(kinds);
            for (List<Integer> f : figures) {
                s.figures.add(new ArrayList<>(f));
            }
            s.lie.addAll(lie);
            s.passes = passes;
            return s;
        }
    }

    /** A refusal: the answer, and the finding if it is one. */
    private static final class Refused extends RuntimeException {
        private static final long serialVersionUID = 1L;
        final int answer;
        final int finding;

        Refused(int answer, int finding) {
            super(null, null, false, false);
            this.answer = answer;
            this.finding = finding;
        }
    }

    private interface Call {
        int answer();
    }

    private final Map<Integer, List<Integer>> rows = new TreeMap<>();
    private final Map<Integer, List<Integer>> texts = new TreeMap<>();
    /** The state ahead of each deed, and the state now as the last one. */
    private List<State> past = new ArrayList<>(List.of(new State()));
    private final Map<Integer, List<State>> kept = new HashMap<>();
    private int asked = 0;
    private long upper = 0;
    private long lower = 1;
    private int finding = 0;
    private final int[] often = new int[6];

    private State now() {
        return past.get(past.size() - 1);
    }

    private int cards() {
        return now().kinds.size();
    }

    private int deeds() {
        return past.size() - 1;
    }

    private int guarded(Call call) {
        try {
            return call.answer();
        } catch (Refused r) {
            if (r.finding > 0) {
                finding = r.finding;
                often[r.finding]++;
            }
            return r.answer;
        }
    }

    private static void bad(boolean when) {
        if (when) {
            throw new Refused(-1, 0);
        }
    }

    private static void state(boolean when) {
        if (when) {
            throw new Refused(-4, 0);
        }
    }

    private static void full(boolean when) {
        if (when) {
            throw new Refused(-2, 0);
        }
    }

    private static void find(int which, boolean when) {
        if (when) {
            throw new Refused(-3, which);
        }
    }

    private static boolean out(int v, int low, int high) {
        return v < low || v > high;
    }

    private boolean noCard(int i) {
        return out(i, 0, cards() - 1);
    }

    public int row(int r, int n) {
        return guarded(() -> {
            bad(out(r, 0, 5) || n > 40);
            find(5, n < 0);
            rows.put(r, new ArrayList<>(Collections.nCopies(n, 0)));
            return n;
        });
    }

    private List<Integer> rowAt(int r) {
        bad(out(r, 0, 5));
        find(1, !rows.containsKey(r));
        return rows.get(r);
    }

    public int lay(int r, int i, int v) {
        return guarded(() -> {
            List<Integer> row = rowAt(r);
            find(2, out(i, 0, row.size() - 1));
            asked = row.set(i, v);
            return 1;
        });
    }

    public int at(int r, int i) {
        return guarded(() -> {
            List<Integer> row = rowAt(r);
            find(2, out(i, 0, row.size() - 1));
            asked = row.get(i);
            return 1;
        });
    }

    public int tear(int r) {
        return guarded(() -> {
            rowAt(r);
            rows.remove(r);
            return 1;
        });
    }

    public int copy(int r, int i, int to, int j, int n) {
        return guarded(() -> {
            bad(out(r, 0, 5) || out(to, 0, 5));
            find(5, n < 0);
            find(1, !rows.containsKey(r) || !rows.containsKey(to));
            find(2, i < 0 || j < 0 || (long) i + n > rows.get(r).size() || (long) j + n > rows.get(to).size());
            List<Integer> taken = new ArrayList<>(rows.get(r).subList(i, i + n));
            for (int k = 0; k < n; k++) {
                rows.get(to).set(j + k, taken.get(k));
            }
            return 1;
        });
    }

    public int mean(int r) {
        return guarded(() -> {
            List<Integer> row = rowAt(r);
            find(4, row.isEmpty());
            asked = (int) (row.stream().mapToLong(v -> v).sum() / row.size());
            return 1;
        });
    }

    public int text(int t, int n) {
        return guarded(() -> {
            bad(out(t, 0, 3) || n > 60);
            find(5, n < 0);
            texts.put(t, new ArrayList<>(Collections.nCopies(n, 32)));
            return n;
        });
    }

    private List<Integer> textAt(int t) {
        bad(out(t, 0, 3));
        find(1, !texts.containsKey(t));
        return texts.get(t);
    }

    public int put(int t, int i, int v) {
        return guarded(() -> {
            List<Integer> text = textAt(t);
            find(2, out(i, 0, text.size() - 1));
            int cut = ((v % 256) + 256) % 256;
            return 1000 + text.set(i, cut > 127 ? cut - 256 : cut);
        });
    }

    /** Reads card by card into the state; the fault or -9. */
    private static int read(List<Integer> text, State into) {
        int at = 0;
        while (true) {
            while (at < text.size() && text.get(at) == ' ') {
                at++;
            }
            if (at == text.size()) {
                return into.kinds.size() < 2 ? at : -9;
            }
            int sign = text.get(at);
            int kind = sign <= 0 ? -1 : LETTERS.indexOf((char) sign);
            if (kind < 0 || into.kinds.size() == 6) {
                return at;
            }
            List<Integer> figures = new ArrayList<>();
            for (int c = 0; c < 3; c++) {
                at++;
                if (at == text.size() || out(text.get(at), '0', '9')) {
                    return at;
                }
                figures.add(text.get(at) - '0');
            }
            at++;
            into.lie.add(into.kinds.size());
            into.kinds.add(kind);
            into.figures.add(figures);
        }
    }

    public int fault(int t) {
        return guarded(() -> read(textAt(t), new State()));
    }

    public int deck(int t) {
        return guarded(() -> {
            State fresh = new State();
            state(read(textAt(t), fresh) != -9);
            past = new ArrayList<>(List.of(fresh));
            kept.clear();
            return cards();
        });
    }

    private static int reads(int kind, List<Integer> f, int c, int passes) {
        int plain = f.get(c);
        int worn = Math.max(0, plain - passes / 4);
        int both = Math.max(plain, f.get(c == 2 ? 0 : c + 1));
        int[] of = {plain, f.get(2 - c), worn, both, plain == 0 ? 10 : worn, both == 9 ? 0 : both};
        return of[kind];
    }

    private static int reads(State s, int i, int c) {
        return reads(s.kinds.get(i), s.figures.get(i), c, s.passes);
    }

    private int fact(int i, int what) {
        State s = now();
        switch (what) {
            case 0:
                return s.kinds.get(i);
            case 4:
                return s.lie.indexOf(i);
            case 1: case 2: case 3:
                return s.figures.get(i).get(what - 1);
            default:
                return reads(s, i, what - 5);
        }
    }

    public int card(int i, int what) {
        return guarded(() -> {
            bad(noCard(i) || out(what, 0, 7));
            asked = fact(i, what);
            return 1;
        });
    }

    public int mark(int i, int kind) {
        return guarded(() -> {
            bad(noCard(i) || out(kind, 1, 5));
            int own = now().kinds.get(i);
            find(3, own != kind && !(own == 4 && kind == 2) && !(own == 5 && kind == 3));
            if (kind == 2) {
                return Math.min(9, now().passes / 4);
            }
            if (kind == 5) {
                return now().lie.indexOf(i);
            }
            int many = 0;
            for (int c = 0; c < 3; c++) {
                int plain = now().figures.get(i).get(c);
                int reads = reads(now(), i, c);
                boolean counts = kind == 1 ? reads != plain : kind == 3 ? reads > plain : reads == 10;
                many += counts ? 1 : 0;
            }
            return many;
        });
    }

    private static State passed(State from, int column, int misread) {
        List<List<Integer>> leading = new ArrayList<>();
        List<List<Integer>> others = new ArrayList<>();
        for (int p = 0; p <= 10; p++) {
            leading.add(new ArrayList<>());
            others.add(new ArrayList<>());
        }
        for (int card : from.lie) {
            int p = (misread & 1 << card) != 0 ? 10 : reads(from, card, column);
            (from.kinds.get(card) == 5 ? leading : others).get(p).add(card);
        }
        State then = from.twin();
        then.lie.clear();
        for (int p = 0; p <= 10; p++) {
            then.lie.addAll(leading.get(p));
            then.lie.addAll(others.get(p));
        }
        then.passes = Math.min(60, from.passes + 1);
        return then;
    }

    private int did(State then) {
        past.add(then);
        return then.lie.get(0);
    }

    private State turned() {
        State then = now().twin();
        Collections.reverse(then.lie);
        return then;
    }

    private State lifted(int n) {
        State then = now().twin();
        Collections.rotate(then.lie, -n);
        return then;
    }

    private State punched(int i, int column, int v) {
        State then = now().twin();
        then.figures.get(i).set(column, v);
        return then;
    }

    public int pass(int column) {
        return guarded(() -> {
            bad(out(column, 0, 2));
            state(cards() == 0);
            full(deeds() >= 40);
            return did(passed(now(), column, 0));
        });
    }

    public int turn() {
        return guarded(() -> {
            state(cards() == 0);
            full(deeds() >= 40);
            return did(turned());
        });
    }

    public int lift(int n) {
        return guarded(() -> {
            state(cards() == 0);
            bad(out(n, 1, cards() - 1));
            full(deeds() >= 40);
            return did(lifted(n));
        });
    }

    public int punch(int i, int column, int v) {
        return guarded(() -> {
            bad(noCard(i) || out(column, 0, 2) || out(v, 0, 9));
            int was = now().figures.get(i).get(column);
            state(was == v);
            full(deeds() >= 40);
            did(punched(i, column, v));
            return was;
        });
    }

    public int undo(int n) {
        return guarded(() -> {
            bad(out(n, 0, deeds()));
            int many = deeds() - n;
            past = new ArrayList<>(past.subList(0, n + 1));
            return many;
        });
    }

    public int keep(int k) {
        return guarded(() -> {
            bad(out(k, 0, 2));
            state(cards() == 0);
            kept.put(k, new ArrayList<>(past));
            return deeds();
        });
    }

    public int on(int k) {
        return guarded(() -> {
            bad(out(k, 0, 2));
            find(1, !kept.containsKey(k));
            past = new ArrayList<>(kept.get(k));
            return deeds();
        });
    }

    public int pocket(int i, int column, int n) {
        return guarded(() -> {
            bad(noCard(i) || out(column, 0, 2) || out(n, 0, 60));
            return reads(now().kinds.get(i), now().figures.get(i), column, n);
        });
    }

    public int run(int r, int to) {
        return guarded(() -> {
            bad(out(r, 0, 5) || out(to, 0, 5));
            state(cards() == 0);
            List<Integer> row = rowAt(r);
            find(5, row.size() > 10);
            find(3, row.stream().anyMatch(c -> out(c, 0, 2)));
            State s = now();
            for (int c : row) {
                s = passed(s, c, 0);
            }
            rows.put(to, new ArrayList<>(s.lie));
            return s.lie.get(0);
        });
    }

    private interface Goal {
        boolean met(State s);
    }

    private int sought(Goal goal, int r) {
        Map<List<Integer>, State> level = new java.util.LinkedHashMap<>();
        level.put(List.of(), now());
        for (int depth = 0; depth <= 5; depth++) {
            for (Map.Entry<List<Integer>, State> e : level.entrySet()) {
                if (goal.met(e.getValue())) {
                    rows.put(r, new ArrayList<>(e.getKey()));
                    return depth;
                }
            }
            Map<List<Integer>, State> deeper = new java.util.LinkedHashMap<>();
            for (Map.Entry<List<Integer>, State> e : level.entrySet()) {
                for (int c = 0; c < 3; c++) {
                    List<Integer> path = new ArrayList<>(e.getKey());
                    path.add(c);
                    deeper.put(path, passed(e.getValue(), c, 0));
                }
            }
            level = deeper;
        }
        return -9;
    }

    public int fewest(int i, int place, int r) {
        return guarded(() -> {
            bad(noCard(i) || noCard(place) || out(r, 0, 5));
            return sought(s -> s.lie.get(place) == i, r);
        });
    }

    public int order(int column, int r) {
        return guarded(() -> {
            bad(out(column, 0, 2) || out(r, 0, 5));
            state(cards() == 0);
            return sought(s -> {
                List<Integer> read = new ArrayList<>();
                for (int card : s.lie) {
                    read.add(reads(s, card, column));
                }
                List<Integer> sorted = new ArrayList<>(read);
                Collections.sort(sorted);
                return sorted.equals(read);
            }, r);
        });
    }

    public int columns(int r) {
        return guarded(() -> {
            bad(out(r, 0, 5));
            state(cards() == 0);
            List<Integer> row = rowAt(r);
            find(5, row.size() != cards());
            List<Integer> sorted = new ArrayList<>(row);
            Collections.sort(sorted);
            for (int i = 0; i < cards(); i++) {
                find(3, sorted.get(i) != i);
            }
            int bits = 0;
            for (int c = 0; c < 3; c++) {
                bits |= passed(now(), c, 0).lie.equals(row) ? 1 << c : 0;
            }
            return bits;
        });
    }

    private List<Integer> pairs(int i, int column, int r) {
        bad(noCard(i) || out(column, 0, 2));
        List<Integer> row = rowAt(r);
        find(5, row.size() > 16 || row.size() % 2 == 1);
        for (int k = 0; k < row.size(); k++) {
            find(3, out(row.get(k), 0, k % 2 == 0 ? 2 : 10));
        }
        return row;
    }

    private boolean fits(int kind, List<Integer> figures, List<Integer> pairs) {
        for (int k = 0; k < pairs.size(); k += 2) {
            if (reads(kind, figures, pairs.get(k), now().passes) != pairs.get(k + 1)) {
                return false;
            }
        }
        return true;
    }

    private List<Integer> fitting(int i, List<Integer> pairs) {
        List<Integer> kinds = new ArrayList<>();
        for (int kind = 0; kind < 6; kind++) {
            if (fits(kind, now().figures.get(i), pairs)) {
                kinds.add(kind);
            }
        }
        return kinds;
    }

    public int kinds(int i, int r) {
        return guarded(() -> fitting(i, pairs(i, 0, r)).stream().mapToInt(k -> 1 << k).sum());
    }

    public int figures(int i, int column, int r) {
        return guarded(() -> {
            List<Integer> pairs = pairs(i, column, r);
            int bits = 0;
            for (int f = 0; f < 10; f++) {
                List<Integer> figures = new ArrayList<>(now().figures.get(i));
                figures.set(column, f);
                bits += fits(now().kinds.get(i), figures, pairs) ? 1 << f : 0;
            }
            return bits;
        });
    }

    public int next(int i, int r) {
        return guarded(() -> {
            List<Integer> kinds = fitting(i, pairs(i, 0, r));
            if (kinds.isEmpty()) {
                return -9;
            }
            int best = -1;
            int least = 99;
            for (int c = 0; c < 3; c++) {
                Map<Integer, Integer> parts = new HashMap<>();
                for (int kind : kinds) {
                    parts.merge(reads(kind, now().figures.get(i), c, now().passes), 1, Integer::sum);
                }
                if (Collections.max(parts.values()) < least) {
                    least = Collections.max(parts.values());
                    best = c;
                }
            }
            asked = least;
            return best;
        });
    }

    private List<Integer> fittingSets(int column, int v) {
        bad(out(column, 0, 2) || out(v, 0, 54));
        state(cards() == 0);
        List<Integer> fit = new ArrayList<>();
        for (int set = 0; set < Math.pow(2, cards()); set++) {
            int sum = 0;
            for (int i = 0; i < cards(); i++) {
                sum += (set & 1 << i) != 0 ? now().figures.get(i).get(column) : 0;
            }
            if (sum == v) {
                fit.add(set);
            }
        }
        return fit;
    }

    public int sets(int column, int v) {
        return guarded(() -> {
            List<Integer> fit = fittingSets(column, v);
            asked = fit.isEmpty() ? -9 : fit.get(0);
            upper = fit.size();
            lower = 1;
            return 1;
        });
    }

    public int sure(int column, int v) {
        return guarded(() -> {
            List<Integer> fit = fittingSets(column, v);
            find(4, fit.isEmpty());
            int each = 0;
            int none = 0;
            for (int i = 0; i < cards(); i++) {
                int bit = 1 << i;
                each += fit.stream().allMatch(s -> (s & bit) != 0) ? bit : 0;
                none += fit.stream().noneMatch(s -> (s & bit) != 0) ? bit : 0;
            }
            asked = none;
            return each;
        });
    }

    private static int played(State s, int i, int j, int left) {
        if (left == 0) {
            return s.lie.indexOf(j) - s.lie.indexOf(i);
        }
        List<Integer> ends = new ArrayList<>();
        ends.add(played(s, i, j, left - 1));
        for (int c = 0; c < 3; c++) {
            ends.add(played(passed(s, c, 0), i, j, left - 1));
        }
        return left % 2 == 0 ? Collections.max(ends) : Collections.min(ends);
    }

    public int duel(int i, int j, int n) {
        return guarded(() -> {
            bad(noCard(i) || noCard(j) || i == j || out(n, 0, 3));
            asked = played(now(), i, j, 2 * n);
            return 1;
        });
    }

    /** The sum over all ways to be misread of the chance (by 12 for each card) times the place or its being 0. */
    private long expected(int i, int column, int p, boolean top) {
        long sum = 0;
        for (int misread = 0; misread < 1 << cards(); misread++) {
            int k = Integer.bitCount(misread);
            long weight = Math.round(Math.pow(p, k) * Math.pow(12 - p, cards() - k));
            int place = passed(now(), column, misread).lie.indexOf(i);
            sum += weight * (top ? (place == 0 ? 1 : 0) : place);
        }
        return sum;
    }

    private int chance(int i, int column, int p, boolean top) {
        bad(noCard(i) || out(column, 0, 2) || out(p, 0, 12));
        long whole = Math.round(Math.pow(12, cards()));
        long part = expected(i, column, p, top);
        long common = java.math.BigInteger.valueOf(part).gcd(java.math.BigInteger.valueOf(whole)).longValue();
        upper = part / common;
        lower = whole / common;
        return 1;
    }

    public int odds(int i, int column, int p) {
        return guarded(() -> chance(i, column, p, true));
    }

    public int mid(int i, int column, int p) {
        return guarded(() -> chance(i, column, p, false));
    }

    public int lots(int n, int seed) {
        return guarded(() -> {
            bad(out(n, 1, 20) || out(seed, 1, 2147483646));
            state(cards() == 0);
            full(deeds() + n > 40);
            long it = seed;
            int top = 0;
            for (int k = 0; k < n; k++) {
                it = it * 48271 % 2147483647;
                int column = (int) (it % 3);
                int what = (int) (it / 8 % 8);
                if (what == 5) {
                    top = did(turned());
                } else if (what == 6) {
                    top = did(lifted(1 + (int) (it / 64 % (cards() - 1))));
                } else if (what == 7) {
                    top = did(punched((int) (it / 64 % cards()), column, (int) (it / 512 % 10)));
                } else {
                    top = did(passed(now(), column, 0));
                }
            }
            return top;
        });
    }

    public int asked() {
        return asked;
    }

    public long upper() {
        return upper;
    }

    public long lower() {
        return lower;
    }

    public int count(int what) {
        return guarded(() -> {
            bad(out(what, 0, 9));
            State s = now();
            int sum = s.figures.stream().flatMap(List::stream).mapToInt(v -> v).sum();
            int worn = (int) s.kinds.stream().filter(k -> k == 2 || k == 4).count();
            int twice = (int) s.kinds.stream().filter(k -> k == 3 || k == 5).count();
            int top = s.lie.isEmpty() ? -9 : s.lie.get(0);
            int[] all = {cards(), s.passes, deeds(), top, sum, worn, twice, rows.size(), texts.size(), kept.size()};
            return all[what];
        });
    }

    public int finding() {
        return finding;
    }

    public int findings(int f) {
        return guarded(() -> {
            bad(out(f, 1, 5));
            return often[f];
        });
    }

    private static void digestOf(List<Long> all, Map<Integer, List<Integer>> shelf, int places) {
        for (int r = 0; r < places; r++) {
            all.add(shelf.containsKey(r) ? shelf.get(r).size() : -1L);
            for (int v : shelf.getOrDefault(r, List.of())) {
                all.add((long) v);
            }
        }
    }

    public long digest() {
        List<Long> all = new ArrayList<>();
        for (int what = 0; what < 10; what++) {
            all.add((long) count(what));
        }
        for (int i = 0; i < cards(); i++) {
            for (int what = 0; what < 8; what++) {
                all.add((long) fact(i, what));
            }
        }
        for (int k = 0; k < 3; k++) {
            all.add(kept.containsKey(k) ? kept.get(k).size() - 1L : -1L);
        }
        digestOf(all, rows, 6);
        digestOf(all, texts, 4);
        long h = 17;
        for (long v : all) {
            h = 31 * h + v;
        }
        return h;
    }
}
