import java.util.ArrayDeque;
import java.util.ArrayList;
import java.util.Arrays;
import java.util.Deque;
import java.util.HashMap;
import java.util.List;
import java.util.Map;
import java.util.TreeMap;
import java.util.regex.Matcher;
import java.util.regex.Pattern;

/**
 * The document once more, written for plainness alone and in another way than the class:
 * parts are names that never change, acts are texts, and what is least is searched for.
 */
final class Model {
    static final int NONE = -1, BAD = -2, STATE = -3, FULL = -4, GUARDED = -5, BIG = -6;
    private static final int[] MOST = {20, 10, 8};
    private static final List<String> WORDS = List.of("add", "mul", "put", "get", "call", "odd", "news");
    private static final String ACT = "(?:add|mul|put|get|call|odd|news) [0-9]{1,3}";
    private static final Pattern BODY = Pattern.compile("(?:" + ACT + "(?:;" + ACT + "){0,9})?", Pattern.DOTALL);

    private static final class TooBig extends Exception {
        private static final long serialVersionUID = 1L;
    }

    /** A routine, field or news. */
    private static final class Thing {
        String part;
        List<String> acts = new ArrayList<>();
        List<Integer> hearers = new ArrayList<>();
        int behind = NONE;

        Thing(String part) {
            this.part = part;
        }

        Thing copy() {
            Thing t = new Thing(part);
            t.acts = new ArrayList<>(acts);
            t.hearers = new ArrayList<>(hearers);
            t.behind = behind;
            return t;
        }
    }

    private static final class World {
        List<String> parts = new ArrayList<>();
        List<List<Thing>> things = List.of(new ArrayList<>(), new ArrayList<>(), new ArrayList<>());
        Map<String, Integer> allowed = new HashMap<>();

        World copy() {
            World w = new World();
            w.parts = new ArrayList<>(parts);
            for (int k = 0; k < 3; k++) {
                for (Thing t : things.get(k)) {
                    w.things.get(k).add(t.copy());
                }
            }
            w.allowed = new HashMap<>(allowed);
            return w;
        }

        Thing routine(int i) {
            return things.get(0).get(i);
        }
    }

    private World now = new World();
    private final Deque<World> past = new ArrayDeque<>();
    private String tape = "";
    private final int[] prices = {1, 1, 1, 1};
    private int day = 0, guard = 0, guarded = NONE, done = 0, names = 0;

    // ---- the program

    private String newPart(World w) {
        String name = "part" + names++;
        w.parts.add(name);
        return name;
    }

    private void keep(World w) {
        past.addLast(now);
        if (past.size() > 20) {
            past.removeFirst();
        }
        now = w;
    }

    private int change(World w, int answer) {
        if (guard == 1 && isGuarded(w)) {
            return GUARDED;
        }
        keep(w);
        return answer;
    }

    private boolean isGuarded(World w) {
        Map<String, Integer> before = ties(now, false), after = ties(w, false);
        boolean joined = false;
        for (String p : w.parts) {
            for (String q : w.parts) {
                if (now.parts.contains(p) && now.parts.contains(q)) {
                    joined |= together(w, after, p, q) && !together(now, before, p, q);
                }
            }
        }
        if (!joined) {
            return false;
        }
        for (int p = 0; p < w.parts.size(); p++) {
            for (int q = 0; q < w.parts.size(); q++) {
                String a = w.parts.get(p), b = w.parts.get(q);
                if (after.containsKey(a + ">" + b) && together(w, after, a, b)
                        && !(before.containsKey(a + ">" + b) && together(now, before, a, b))) {
                    guarded = 10 * p + q;
                    return true;
                }
            }
        }
        throw new IllegalStateException("parts joined by no new tie");
    }

    int part() {
        if (now.parts.size() == 10) {
            return FULL;
        }
        World w = now.copy();
        newPart(w);
        keep(w);
        return w.parts.size() - 1;
    }

    int add(int what, int part) {
        if (what < 0 || what > 2 || !isPart(part)) {
            return NONE;
        }
        if (now.things.get(what).size() == MOST[what]) {
            return FULL;
        }
        World w = now.copy();
        w.things.get(what).add(new Thing(w.parts.get(part)));
        keep(w);
        return w.things.get(what).size() - 1;
    }

    private boolean isPart(int p) {
        return p >= 0 && p < now.parts.size();
    }

    private boolean isThing(int what, int i) {
        return what >= 0 && what <= 2 && i >= 0 && i < now.things.get(what).size();
    }

    private boolean isAct(int r, int i) {
        return isThing(0, r) && i >= 0 && i < now.routine(r).acts.size();
    }

    private boolean isFace(int r) {
        return now.routine(r).behind != NONE;
    }

    int where(int what, int i) {
        return isThing(what, i) ? now.parts.indexOf(now.things.get(what).get(i).part) : NONE;
    }

    int feed(long w, int n) {
        if (n < 1 || n > 8) {
            return BAD;
        }
        if (tape.length() + n > 120) {
            return FULL;
        }
        StringBuilder more = new StringBuilder();
        for (int i = 0; i < n; i++) {
            more.insert(0, (char) (w & 255));
            w >>= 8;
        }
        tape += more;
        return tape.length();
    }

    private static int fault(String text) {
        for (int k = 1; k <= text.length(); k++) {
            Matcher m = BODY.matcher(text.substring(0, k));
            if (!m.matches() && !m.hitEnd()) {
                return k - 1;
            }
        }
        return BODY.matcher(text).matches() ? NONE : text.length();
    }

    private static String word(String act) {
        return act.split(" ")[0];
    }

    private static int number(String act) {
        return Integer.parseInt(act.split(" ")[1]);
    }

    private static int kind(String act) {
        switch (word(act)) {
            case "put": case "get": return 1;
            case "call": case "odd": return 0;
            case "news": return 2;
            default: return NONE;
        }
    }

    int body(int r) {
        if (!isThing(0, r)) {
            return NONE;
        }
        if (isFace(r)) {
            return STATE;
        }
        String text = tape;
        tape = "";
        int fault = fault(text);
        if (fault != NONE) {
            return -10 - fault;
        }
        List<String> acts = text.isEmpty() ? List.of() : List.of(text.split(";"));
        for (String act : acts) {
            if (kind(act) != NONE && !isThing(kind(act), number(act))) {
                return BAD;
            }
        }
        World w = now.copy();
        w.routine(r).acts = new ArrayList<>(acts);
        return change(w, acts.size());
    }

    int act(int r, int i, int what) {
        if (!isAct(r, i) || what < 0 || what > 1) {
            return NONE;
        }
        String act = now.routine(r).acts.get(i);
        return what == 0 ? WORDS.indexOf(word(act)) : number(act);
    }

    int hear(int news, int r) {
        if (!isThing(2, news) || !isThing(0, r)) {
            return NONE;
        }
        List<Integer> hearers = now.things.get(2).get(news).hearers;
        if (hearers.contains(r) || isFace(r)) {
            return STATE;
        }
        if (hearers.size() == 6) {
            return FULL;
        }
        World w = now.copy();
        w.things.get(2).get(news).hearers.add(r);
        return change(w, hearers.size() + 1);
    }

    int run(int r, int a) {
        if (!isThing(0, r)) {
            return NONE;
        }
        if (a < 0 || a > 9972) {
            return BAD;
        }
        int[] state = {a, 0};
        try {
            work(r, 1, state, new int[10]);
        } catch (TooBig e) {
            return BIG;
        }
        done = state[1];
        return state[0];
    }

    private void work(int r, int open, int[] state, int[] fields) throws TooBig {
        if (open > 30) {
            throw new TooBig();
        }
        for (String act : now.routine(r).acts) {
            if (++state[1] > 400) {
                throw new TooBig();
            }
            int n = number(act);
            switch (word(act)) {
                case "add": state[0] = (state[0] + n) % 9973; break;
                case "mul": state[0] = (state[0] * n) % 9973; break;
                case "put": fields[n] = state[0]; break;
                case "get": state[0] = (state[0] + fields[n]) % 9973; break;
                case "call": work(n, open + 1, state, fields); break;
                case "odd":
                    if (state[0] % 2 == 1) {
                        work(n, open + 1, state, fields);
                    }
                    break;
                default:
                    for (int h : now.things.get(2).get(n).hearers) {
                        work(h, open + 1, state, fields);
                    }
            }
        }
    }

    int done() {
        return done;
    }

    // ---- ties and rings

    /** Numbers (or prices) of all ties, by "p>q", those that are allowed left out. */
    private Map<String, Integer> ties(World w, boolean price) {
        Map<String, Integer> found = new TreeMap<>();
        for (Thing r : w.things.get(0)) {
            if (r.behind != NONE) {
                note(w, found, w.routine(r.behind).part, r.part, price ? prices[3] : 1);
                continue;
            }
            for (String act : r.acts) {
                int k = kind(act);
                if (k != NONE) {
                    note(w, found, r.part, w.things.get(k).get(number(act)).part, price ? prices[k] : 1);
                }
            }
        }
        for (Thing n : w.things.get(2)) {
            for (int h : n.hearers) {
                note(w, found, w.routine(h).part, n.part, price ? prices[2] : 1);
            }
        }
        return found;
    }

    private void note(World w, Map<String, Integer> found, String p, String q, int n) {
        String key = p + ">" + q;
        if (!p.equals(q) && w.allowed.getOrDefault(key, 0) <= day) {
            found.merge(key, n, Integer::sum);
        }
    }

    private static boolean way(World w, Map<String, Integer> ties, String p, String q) {
        List<String> seen = new ArrayList<>(List.of(p));
        for (int i = 0; i < seen.size(); i++) {
            for (String next : w.parts) {
                if (ties.containsKey(seen.get(i) + ">" + next)) {
                    if (next.equals(q)) {
                        return true;
                    }
                    if (!seen.contains(next)) {
                        seen.add(next);
                    }
                }
            }
        }
        return false;
    }

    private static boolean together(World w, Map<String, Integer> ties, String p, String q) {
        return p.equals(q) || way(w, ties, p, q) && way(w, ties, q, p);
    }

    private String key(int p, int q) {
        return now.parts.get(p) + ">" + now.parts.get(q);
    }

    private boolean isPair(int p, int q) {
        return isPart(p) && isPart(q) && p != q;
    }

    int price(int sort, int p) {
        if (sort < 0 || sort > 3) {
            return NONE;
        }
        if (p < 0 || p > 99) {
            return BAD;
        }
        int was = prices[sort];
        prices[sort] = p;
        return was;
    }

    int tie(int p, int q, int what) {
        if (!isPair(p, q) || what < 0 || what > 1) {
            return NONE;
        }
        return ties(now, what == 1).getOrDefault(key(p, q), 0);
    }

    int allow(int p, int q, int till) {
        if (!isPair(p, q)) {
            return NONE;
        }
        if (till < 0 || till > 999) {
            return BAD;
        }
        Integer was = now.allowed.put(key(p, q), till);
        return was == null ? 0 : was;
    }

    int day(int d) {
        if (d < 0 || d > 999 || d < day) {
            return BAD;
        }
        int was = day;
        day = d;
        return was;
    }

    int group(int p) {
        if (!isPart(p)) {
            return NONE;
        }
        Map<String, Integer> ties = ties(now, false);
        int q = 0;
        while (!together(now, ties, now.parts.get(q), now.parts.get(p))) {
            q++;
        }
        return q;
    }

    int groups() {
        int[] sizes = new int[10];
        for (int p = 0; p < now.parts.size(); p++) {
            sizes[group(p)]++;
        }
        return (int) Arrays.stream(sizes).filter(n -> n >= 2).count();
    }

    /** The least ring over a matrix of ties, by trying rings of each length, the lesser first; null: none. */
    private static List<Integer> ring(boolean[][] is, int p, int q) {
        for (int size = 2; size <= is.length; size++) {
            List<Integer> row = new ArrayList<>(List.of(p, q));
            if (is[p][q] && closes(is, row, size)) {
                return row;
            }
        }
        return null;
    }

    private static boolean closes(boolean[][] is, List<Integer> row, int size) {
        int last = row.get(row.size() - 1);
        if (row.size() == size) {
            return is[last][row.get(0)];
        }
        for (int next = 0; next < is.length; next++) {
            if (is[last][next] && !row.contains(next)) {
                row.add(next);
                if (closes(is, row, size)) {
                    return true;
                }
                row.remove(row.size() - 1);
            }
        }
        return false;
    }

    private int[][] matrix(boolean price) {
        int n = now.parts.size();
        int[][] m = new int[n][n];
        Map<String, Integer> ties = ties(now, price);
        for (int p = 0; p < n; p++) {
            for (int q = 0; q < n; q++) {
                m[p][q] = ties.getOrDefault(key(p, q), 0);
            }
        }
        return m;
    }

    private static boolean[][] positive(int[][] m) {
        boolean[][] is = new boolean[m.length][m.length];
        for (int p = 0; p < m.length; p++) {
            for (int q = 0; q < m.length; q++) {
                is[p][q] = m[p][q] > 0;
            }
        }
        return is;
    }

    int ring(int p, int q, int what, int i) {
        if (!isPair(p, q) || what < 0 || what > 1) {
            return NONE;
        }
        List<Integer> ring = ring(positive(matrix(false)), p, q);
        if (ring == null) {
            return NONE;
        }
        if (what == 0) {
            return ring.size();
        }
        return i >= 0 && i < ring.size() ? ring.get(i) : NONE;
    }

    /** Tries all orders, the lesser ones first, and leaves those that cost as much as the best already. */
    private static final class Search {
        final int[][] cost;
        int best = Integer.MAX_VALUE;
        List<Integer> order = List.of();

        Search(int[][] cost) {
            this.cost = cost;
            go(new ArrayList<>(), 0);
        }

        void go(List<Integer> row, int sum) {
            if (sum >= best) {
                return;
            }
            if (row.size() == cost.length) {
                best = sum;
                order = new ArrayList<>(row);
                return;
            }
            for (int x = 0; x < cost.length; x++) {
                if (!row.contains(x)) {
                    int more = 0;
                    for (int y : row) {
                        more += cost[x][y];
                    }
                    row.add(x);
                    go(row, sum + more);
                    row.remove(row.size() - 1);
                }
            }
        }
    }

    int choice() {
        return new Search(matrix(true)).best;
    }

    int chosen(int what, int i) {
        List<Integer> order = new Search(matrix(true)).order;
        List<Integer> found = new ArrayList<>();
        int[][] counts = matrix(false);
        for (int p = 0; p < counts.length; p++) {
            for (int q = 0; q < counts.length; q++) {
                if (counts[p][q] > 0 && order.indexOf(q) < order.indexOf(p)) {
                    found.add(10 * p + q);
                }
            }
        }
        List<Integer> asked = what == 0 ? order : what == 1 ? found : List.of();
        return i >= 0 && i < asked.size() ? asked.get(i) : NONE;
    }

    int bound() {
        int[][] left = matrix(true);
        int bound = 0;
        while (true) {
            boolean[][] is = positive(left);
            List<Integer> best = null;
            for (int p = 0; p < left.length; p++) {
                for (int q = 0; q < left.length; q++) {
                    List<Integer> ring = ring(is, p, q);
                    if (ring != null && (best == null || ring.size() < best.size())) {
                        best = ring;
                    }
                }
            }
            if (best == null) {
                return bound;
            }
            int least = Integer.MAX_VALUE;
            for (int i = 0; i < best.size(); i++) {
                least = Math.min(least, left[best.get(i)][best.get((i + 1) % best.size())]);
            }
            for (int i = 0; i < best.size(); i++) {
                left[best.get(i)][best.get((i + 1) % best.size())] -= least;
            }
            bound += least;
        }
    }

    // ---- layers, the guard

    int layer(int p) {
        if (!isPart(p)) {
            return NONE;
        }
        return groups() > 0 ? STATE : depth(matrix(false), p);
    }

    private static int depth(int[][] m, int p) {
        int most = 0;
        for (int q = 0; q < m.length; q++) {
            if (m[p][q] > 0) {
                most = Math.max(most, 1 + depth(m, q));
            }
        }
        return most;
    }

    int worth() {
        Map<String, Integer> ties = ties(now, false);
        int pairs = 0;
        for (String p : now.parts) {
            for (String q : now.parts) {
                if (now.parts.indexOf(p) < now.parts.indexOf(q) && !way(now, ties, p, q) && !way(now, ties, q, p)) {
                    pairs++;
                }
            }
        }
        return pairs;
    }

    int breaks(long layers) {
        String digits = new StringBuilder(String.valueOf(layers)).reverse().toString();
        if (layers < 0 || layers > 0 && digits.length() > now.parts.size()) {
            return BAD;
        }
        digits = digits + "0000000000";
        int[][] m = matrix(false);
        int broken = 0;
        for (int p = 0; p < m.length; p++) {
            for (int q = 0; q < m.length; q++) {
                if (m[p][q] > 0 && digits.charAt(p) <= digits.charAt(q)) {
                    broken++;
                }
            }
        }
        return broken;
    }

    int guard(int is) {
        if (is != 0 && is != 1) {
            return BAD;
        }
        int was = guard;
        guard = is;
        return was;
    }

    int guarded() {
        return guarded;
    }

    // ---- undoing

    int move(int what, int i, int part) {
        if (!isThing(what, i) || !isPart(part)) {
            return NONE;
        }
        int was = where(what, i);
        if (was == part || what == 0 && isFace(i)) {
            return STATE;
        }
        World w = now.copy();
        w.things.get(what).get(i).part = w.parts.get(part);
        return change(w, was);
    }

    int split(int part, int set) {
        if (!isPart(part)) {
            return NONE;
        }
        List<Integer> moved = new ArrayList<>();
        for (int bit = 0; bit < 32; bit++) {
            if ((set >>> bit & 1) == 1) {
                moved.add(bit);
            }
        }
        if (moved.isEmpty() || moved.stream().anyMatch(r -> !isThing(0, r) || isFace(r))) {
            return BAD;
        }
        if (moved.stream().anyMatch(r -> where(0, r) != part)) {
            return STATE;
        }
        if (now.parts.size() == 10) {
            return FULL;
        }
        World w = now.copy();
        String fresh = newPart(w);
        moved.forEach(r -> w.routine(r).part = fresh);
        return change(w, w.parts.size() - 1);
    }

    int melt(int p, int q) {
        if (!isPart(p) || !isPart(q)) {
            return NONE;
        }
        if (p == q) {
            return BAD;
        }
        World w = now.copy();
        String stays = now.parts.get(p), goes = now.parts.get(q);
        for (List<Thing> all : w.things) {
            for (Thing t : all) {
                if (t.part.equals(goes)) {
                    t.part = stays;
                }
            }
        }
        w.parts.remove(goes);
        w.allowed.keySet().removeIf(k -> k.startsWith(goes + ">") || k.endsWith(">" + goes));
        return change(w, w.parts.size());
    }

    private boolean canBeBetween(int r, int i, List<String> words) {
        String act = now.routine(r).acts.get(i);
        return !isFace(r) && words.contains(word(act)) && !isFace(number(act));
    }

    int turn(int r, int i) {
        if (!isAct(r, i)) {
            return NONE;
        }
        if (!canBeBetween(r, i, List.of("call"))) {
            return STATE;
        }
        int news = now.things.get(2).size();
        if (news == 8) {
            return FULL;
        }
        World w = now.copy();
        int told = number(now.routine(r).acts.get(i));
        Thing n = new Thing(now.routine(told).part);
        n.hearers.add(told);
        w.things.get(2).add(n);
        w.routine(r).acts.set(i, "news " + news);
        return change(w, news);
    }

    int face(int r, int i) {
        if (!isAct(r, i)) {
            return NONE;
        }
        if (!canBeBetween(r, i, List.of("call", "odd"))) {
            return STATE;
        }
        int fresh = now.things.get(0).size();
        if (fresh == 20 || now.parts.size() == 10) {
            return FULL;
        }
        World w = now.copy();
        String act = now.routine(r).acts.get(i);
        Thing f = new Thing(newPart(w));
        f.behind = number(act);
        f.acts.add("call " + number(act));
        w.things.get(0).add(f);
        w.routine(r).acts.set(i, word(act) + " " + fresh);
        return change(w, fresh);
    }

    int pull(int f) {
        if (!isThing(0, f)) {
            return NONE;
        }
        if (!isFace(f)) {
            return STATE;
        }
        World w = now.copy();
        int behind = w.routine(f).behind;
        w.routine(f).behind = NONE;
        w.routine(f).acts.clear();
        int changed = 0;
        for (Thing r : w.things.get(0)) {
            for (int i = 0; i < r.acts.size(); i++) {
                String act = r.acts.get(i);
                if (kind(act) == 0 && number(act) == f) {
                    r.acts.set(i, word(act) + " " + behind);
                    changed++;
                }
            }
        }
        return change(w, changed);
    }

    int back() {
        if (past.isEmpty()) {
            return STATE;
        }
        now = past.removeLast();
        return past.size();
    }

    int count(int what) {
        switch (what) {
            case 0: return now.parts.size();
            case 1: case 2: case 3: return now.things.get(what - 1).size();
            case 4: return ties(now, false).size();
            case 5: return now.things.get(0).stream().mapToInt(r -> r.acts.size()).sum();
            case 6: return (int) now.things.get(0).stream().filter(r -> r.behind != NONE).count();
            case 7: return past.size();
            case 8: return day;
            case 9: return tape.length();
            default: return NONE;
        }
    }
}
