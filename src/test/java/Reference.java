import java.math.BigInteger;
import java.util.ArrayList;
import java.util.Arrays;
import java.util.List;
import java.util.TreeMap;
import java.util.TreeSet;

/**
 * The document a second time, in another way: by all orders, all sets, all draws and whole fractions,
 * with the library and without a thought of room or speed. RunsTest holds the class against it.
 */
public final class Reference {
    static final int BAD = -1, FULL = -2, NONE = -3, STATE = -4;
    static final long NO = -1000000000000L;
    static final int[][] PAIRS = {{0, 1}, {0, 2}, {1, 2}, {0, 3}, {1, 3}, {2, 3}};

    static final class Ratio {
        final BigInteger above, below;

        Ratio(BigInteger above, BigInteger below) {
            BigInteger g = above.gcd(below);
            if (below.signum() < 0) {
                g = g.negate();
            }
            this.above = above.divide(g);
            this.below = below.divide(g);
        }

        static Ratio of(long above, long below) {
            return new Ratio(BigInteger.valueOf(above), BigInteger.valueOf(below));
        }

        Ratio plus(Ratio o) {
            return new Ratio(above.multiply(o.below).add(o.above.multiply(below)), below.multiply(o.below));
        }

        Ratio times(Ratio o) {
            return new Ratio(above.multiply(o.above), below.multiply(o.below));
        }

        Ratio minus(Ratio o) {
            return plus(o.times(of(-1, 1)));
        }

        int compare(Ratio o) {
            return minus(o).above.signum();
        }

        long part(int part) {
            return (part == 0 ? above : below).longValueExact();
        }
    }

    static final class Graph {
        int n = 1;
        boolean[][] has = new boolean[10][10];

        Graph copy() {
            Graph g = new Graph();
            g.n = n;
            for (int i = 0; i < 10; i++) {
                g.has[i] = has[i].clone();
            }
            return g;
        }

        int roads() {
            int r = 0;
            for (int a = 0; a < n; a++) {
                for (int b = a + 1; b < n; b++) {
                    r += has[a][b] ? 1 : 0;
                }
            }
            return r;
        }

        void set(int a, int b, boolean is) {
            has[a][b] = is;
            has[b][a] = is;
        }
    }

    static final class Thing {
        int kind, a, b, weight;

        Thing copy() {
            Thing t = new Thing();
            t.kind = kind;
            t.a = a;
            t.b = b;
            t.weight = weight;
            return t;
        }
    }

    static final class State {
        List<Graph> nets = new ArrayList<>();
        TreeSet<Integer> outs = new TreeSet<>(); // m * 100 + form
        List<Integer> weights = new ArrayList<>();
        TreeMap<Integer, Integer> chances = new TreeMap<>(); // lesser * 10 + greater
        List<Thing> shares = new ArrayList<>();
        int z = 1;

        State copy() {
            State s = new State();
            for (Graph g : nets) {
                s.nets.add(g.copy());
            }
            s.outs.addAll(outs);
            s.weights.addAll(weights);
            s.chances.putAll(chances);
            for (Thing t : shares) {
                s.shares.add(t.copy());
            }
            s.z = z;
            return s;
        }
    }

    State s = new State();
    State kept = null;
    List<Integer> tape = new ArrayList<>();
    List<int[]> proved = new ArrayList<>();
    List<Integer> bodies = new ArrayList<>();
    Object[] sheets = new Object[4];
    Object[] shelves = new Object[4]; // Integer: number of a share; an array: a row

    public Reference() {
        for (int i = 0; i < 4; i++) {
            s.nets.add(new Graph());
        }
    }

    // ---- helpers

    static boolean in(int v, int low, int high) {
        return low <= v && v <= high;
    }

    static List<int[]> orders(int m) {
        List<int[]> all = new ArrayList<>();
        if (m == 0) {
            all.add(new int[0]);
            return all;
        }
        for (int[] less : orders(m - 1)) {
            for (int at = 0; at < m; at++) {
                int[] more = new int[m];
                for (int i = 0, j = 0; i < m; i++) {
                    more[i] = i == at ? m - 1 : less[j++];
                }
                all.add(more);
            }
        }
        return all;
    }

    static int code(Graph g, int[] posts, int[] order) {
        int c = 0;
        for (int p = 0; p < 6; p++) {
            if (PAIRS[p][1] < posts.length && g.has[posts[order[PAIRS[p][0]]]][posts[order[PAIRS[p][1]]]]) {
                c |= 1 << p;
            }
        }
        return c;
    }

    static final List<List<int[]>> ORDERS = List.of(orders(0), orders(1), orders(2), orders(3), orders(4));

    static int formOfPosts(Graph g, int[] posts) {
        int least = Integer.MAX_VALUE;
        for (int[] order : ORDERS.get(posts.length)) {
            least = Math.min(least, code(g, posts, order));
        }
        return least;
    }

    static Graph graphOf(int m, int code) {
        Graph g = new Graph();
        g.n = m;
        for (int p = 0; p < 6; p++) {
            if (PAIRS[p][1] < m) {
                g.set(PAIRS[p][0], PAIRS[p][1], (code >> p & 1) == 1);
            }
        }
        return g;
    }

    static int pairs(int m) {
        int n = 0;
        for (int[] p : PAIRS) {
            n += p[1] < m ? 1 : 0;
        }
        return n;
    }

    static int leastOf(int m, int code) {
        int[] posts = new int[m];
        for (int i = 0; i < m; i++) {
            posts[i] = i;
        }
        return formOfPosts(graphOf(m, code), posts);
    }

    static final List<List<Integer>> FORMS = allForms();

    static List<List<Integer>> allForms() {
        List<List<Integer>> all = new ArrayList<>();
        all.add(List.of());
        for (int m = 1; m <= 4; m++) {
            TreeSet<Integer> forms = new TreeSet<>();
            for (int code = 0; code < 1 << pairs(m); code++) {
                forms.add(leastOf(m, code));
            }
            all.add(new ArrayList<>(forms));
        }
        return all;
    }

    static boolean isForm(int m, int form) {
        return in(m, 1, 4) && FORMS.get(m).contains(form);
    }

    static TreeMap<Integer, Integer> counts(Graph g, int m) {
        TreeMap<Integer, Integer> counts = new TreeMap<>();
        for (int set = 0; set < 1 << g.n; set++) {
            if (Integer.bitCount(set) == m) {
                int[] posts = new int[m];
                for (int p = 0, i = 0; p < g.n; p++) {
                    if ((set >> p & 1) == 1) {
                        posts[i++] = p;
                    }
                }
                counts.merge(formOfPosts(g, posts), 1, Integer::sum);
            }
        }
        return counts;
    }

    static int countOf(Graph g, int m, int form) {
        return counts(g, m).getOrDefault(form, 0);
    }

    static Ratio shareIn(Graph g, int m, int form) {
        int all = 0;
        TreeMap<Integer, Integer> counts = counts(g, m);
        for (int c : counts.values()) {
            all += c;
        }
        return Ratio.of(counts.getOrDefault(form, 0), all);
    }

    boolean isFree(Graph g) {
        for (int o : s.outs) {
            if (countOf(g, o / 100, o % 100) != 0) {
                return false;
            }
        }
        return true;
    }

    int heapOf(int k) {
        int bits = 0;
        for (int i = 0; i < FORMS.get(k).size(); i++) {
            bits |= isFree(graphOf(k, FORMS.get(k).get(i))) ? 1 << i : 0;
        }
        return bits;
    }

    int chanceOf(int a, int b) {
        return s.chances.getOrDefault(Math.min(a, b) * 10 + Math.max(a, b), 0);
    }

    /** All draws of m posts of parts in order, all sets of roads among them. */
    long[] drawAll(int m) {
        long[] byCode = new long[64];
        int k = s.weights.size();
        int draws = (int) Math.round(Math.pow(k, m));
        for (int d = 0; d < draws; d++) {
            int[] part = new int[m];
            long w = 1;
            for (int i = 0, rest = d; i < m; i++, rest /= k) {
                part[i] = rest % k;
                w *= s.weights.get(part[i]);
            }
            for (int c = 0; c < 1 << pairs(m); c++) {
                long v = w;
                for (int p = 0; p < pairs(m); p++) {
                    int chance = chanceOf(part[PAIRS[p][0]], part[PAIRS[p][1]]);
                    v *= (c >> p & 1) == 1 ? chance : 4 - chance;
                }
                byCode[c] += v;
            }
        }
        return byCode;
    }

    Ratio atOf(int m, int form) {
        long[] byCode = drawAll(m);
        long here = 0;
        long all = 0;
        for (int c = 0; c < 1 << pairs(m); c++) {
            all += byCode[c];
            here += leastOf(m, c) == form ? byCode[c] : 0;
        }
        return Ratio.of(here, all);
    }

    boolean limitFree() {
        for (int o : s.outs) {
            if (atOf(o / 100, o % 100).above.signum() != 0) {
                return false;
            }
        }
        return true;
    }

    Ratio givesOf(Thing t, int i) {
        int g = FORMS.get(3).get(i);
        if (t.kind == 0) {
            return shareIn(graphOf(3, g), t.a, t.b).times(Ratio.of(3, 1));
        }
        if (t.kind != 2) {
            String digits = String.format("%04d", t.a);
            return Ratio.of(3L * (digits.charAt(3 - i) - '0' - 4), 1);
        }
        Graph graph = graphOf(3, g);
        long sum = 0;
        for (int p = 0; p < 3; p++) {
            long product = 1;
            for (int q = 0; q < 3; q++) {
                if (q != p) {
                    product *= graph.has[p][q] ? t.a : t.b;
                }
            }
            sum += product;
        }
        return Ratio.of(sum, 1);
    }

    Ratio heightOf(int m, int form, int i) {
        Ratio h = shareIn(graphOf(3, FORMS.get(3).get(i)), m, form);
        for (Thing t : s.shares) {
            if (t.kind == 2) {
                h = h.plus(Ratio.of(t.weight, 12).times(givesOf(t, i)).times(Ratio.of(1, 3)));
            }
        }
        return h;
    }

    Ratio boundOf(int m, int form) {
        Ratio best = null;
        for (int i = 0; i < 4; i++) {
            if ((heapOf(3) >> i & 1) == 1) {
                Ratio h = heightOf(m, form, i);
                best = best == null || h.compare(best) > 0 ? h : best;
            }
        }
        return best;
    }

    int next() {
        s.z = s.z * 1103515245 + 12345;
        return s.z >>> 16;
    }

    boolean isNet(int net) {
        return in(net, 0, 3);
    }

    // ---- nets

    public int feed(long eight, int n) {
        if (!in(n, 1, 8)) {
            return BAD;
        }
        if (tape.size() + n > 160) {
            return FULL;
        }
        for (int i = 0; i < n; i++) {
            tape.add((int) (eight & 255));
            eight >>= 8;
        }
        return tape.size();
    }

    /** Words of the tape: {place, length}. */
    static List<int[]> words(String text) {
        List<int[]> words = new ArrayList<>();
        java.util.regex.Matcher m = java.util.regex.Pattern.compile("[a-z]+|[0-9]+|[^ ]", java.util.regex.Pattern.DOTALL).matcher(text);
        while (m.find()) {
            words.add(new int[] {m.start(), m.end()});
        }
        return words;
    }

    /** A net, or the place of the fault. */
    static Object parse(String text) {
        List<int[]> words = words(text);
        Graph g = new Graph();
        int state = 0; // 0 posts, 1 its number, 2 its semicolon, 3 a phrase may begin, 4 in a phrase
        String phrase = "";
        List<Integer> told = new ArrayList<>();
        for (int[] w : words) {
            String word = text.substring(w[0], w[1]);
            boolean number = word.matches("[0-9]{1,2}");
            boolean right;
            if (state == 0) {
                right = word.equals("posts");
                state = 1;
            } else if (state == 1) {
                right = number && in(Integer.parseInt(word), 1, 10);
                if (right) {
                    g.n = Integer.parseInt(word);
                }
                state = 2;
            } else if (state == 2) {
                right = word.equals(";");
                state = 3;
            } else if (state == 3) {
                right = word.equals("road") || word.equals("all") || word.equals("ring");
                phrase = word;
                told.clear();
                state = 4;
            } else if (word.equals(";")) {
                int size = told.size();
                right = size >= (phrase.equals("all") ? 1 : phrase.equals("road") ? 2 : 3);
                for (int i = 0; right && i < size; i++) {
                    for (int j = i + 1; j < size; j++) {
                        if (phrase.equals("all") || j == i + 1 || phrase.equals("ring") && i == 0 && j == size - 1) {
                            g.set(told.get(i), told.get(j), true);
                        }
                    }
                }
                state = 3;
            } else {
                right = number && Integer.parseInt(word) < g.n && !told.contains(Integer.parseInt(word));
                if (right) {
                    told.add(Integer.parseInt(word));
                }
            }
            if (!right) {
                return w[0];
            }
        }
        return state == 3 ? g : (Object) text.length();
    }

    public int read(int net) {
        if (!isNet(net)) {
            return BAD;
        }
        StringBuilder text = new StringBuilder();
        for (int b : tape) {
            text.append((char) b);
        }
        tape.clear();
        Object got = parse(text.toString());
        if (got instanceof Graph g) {
            s.nets.set(net, g);
            return g.roads();
        }
        return -100 - (Integer) got;
    }

    public int posts(int net, int n) {
        if (!isNet(net) || !in(n, 1, 10)) {
            return BAD;
        }
        Graph g = new Graph();
        g.n = n;
        s.nets.set(net, g);
        return n;
    }

    public int road(int net, int a, int b, boolean is) {
        if (!isNet(net) || !in(a, 0, s.nets.get(net).n - 1) || !in(b, 0, s.nets.get(net).n - 1) || a == b) {
            return BAD;
        }
        boolean was = s.nets.get(net).has[a][b];
        s.nets.get(net).set(a, b, is);
        return was != is ? 1 : 0;
    }

    public int netOf(int net, int what) {
        if (!isNet(net)) {
            return BAD;
        }
        Graph g = s.nets.get(net);
        if (what == 0 || what == 1) {
            return what == 0 ? g.n : g.roads();
        }
        if (!in(what, 10, 9 + g.n)) {
            return BAD;
        }
        int set = 0;
        for (int q = 0; q < g.n; q++) {
            set += g.has[what - 10][q] ? 1 << q : 0;
        }
        return set;
    }

    public int rows(int net, int sheet) {
        if (!isNet(net) || !in(sheet, 0, 3)) {
            return BAD;
        }
        if (sheets[sheet] == null) {
            return -11;
        }
        if (!(sheets[sheet] instanceof int[] row)) {
            return -13;
        }
        Graph g = new Graph();
        g.n = s.nets.get(net).n;
        for (int p = 0; p < g.n; p++) {
            for (int q = 0; q < p; q++) {
                g.set(p, q, p < row.length && (row[p] & 1 << q) != 0);
            }
        }
        s.nets.set(net, g);
        return g.roads();
    }

    public int turn(int net) {
        if (!isNet(net)) {
            return BAD;
        }
        Graph g = s.nets.get(net);
        for (int a = 0; a < g.n; a++) {
            for (int b = 0; b < a; b++) {
                g.set(a, b, !g.has[a][b]);
            }
        }
        return g.roads();
    }

    /** Maps posts of b onto those of a, from the last one down. */
    static boolean alike(Graph a, Graph b, int left, int[] to) {
        if (left < 0) {
            return true;
        }
        for (int p = 0; p < a.n; p++) {
            boolean fits = true;
            for (int q = b.n - 1; q > left && fits; q--) {
                fits = to[q] != p && b.has[left][q] == a.has[p][to[q]];
            }
            if (fits) {
                to[left] = p;
                if (alike(a, b, left - 1, to)) {
                    return true;
                }
            }
        }
        return false;
    }

    public int same(int a, int b) {
        if (!isNet(a) || !isNet(b)) {
            return BAD;
        }
        Graph x = s.nets.get(a);
        Graph y = s.nets.get(b);
        return x.n == y.n && alike(x, y, y.n - 1, new int[10]) ? 1 : 0;
    }

    // ---- forms

    public int form(int m, int code) {
        return !in(m, 1, 4) || !in(code, 0, (1 << pairs(m)) - 1) ? BAD : leastOf(m, code);
    }

    public int formAt(int m, int i) {
        if (!in(m, 1, 4) || i < 0) {
            return BAD;
        }
        return i < FORMS.get(m).size() ? FORMS.get(m).get(i) : NONE;
    }

    public int count(int net, int m, int form) {
        return !isNet(net) || !isForm(m, form) ? BAD : countOf(s.nets.get(net), m, form);
    }

    public int share(int net, int m, int form, int part) {
        if (!isNet(net) || !isForm(m, form) || !in(part, 0, 1)) {
            return BAD;
        }
        return s.nets.get(net).n < m ? NONE : (int) shareIn(s.nets.get(net), m, form).part(part);
    }

    public int lift(int m, int form, int k, int into, int part) {
        if (!isForm(m, form) || !in(k, m, 4) || !isForm(k, into) || !in(part, 0, 1)) {
            return BAD;
        }
        return (int) shareIn(graphOf(k, into), m, form).part(part);
    }

    public int out(int m, int form, boolean is) {
        if (!in(m, 2, 4) || !isForm(m, form)) {
            return BAD;
        }
        int o = m * 100 + form;
        if (s.outs.contains(o) == is) {
            return 0;
        }
        if (!is) {
            s.outs.remove(o);
            return 1;
        }
        if (s.outs.size() == 4) {
            return FULL;
        }
        s.outs.add(o);
        return 1;
    }

    public int free(int net) {
        return !isNet(net) ? BAD : isFree(s.nets.get(net)) ? 1 : 0;
    }

    public int heap(int k) {
        return in(k, 2, 4) ? heapOf(k) : BAD;
    }

    public int most(int n, int m, int form) {
        if (!in(n, 1, 5) || !isForm(m, form)) {
            return BAD;
        }
        int most = NONE;
        for (long bits = 0; bits < 1L << n * (n - 1) / 2; bits++) {
            Graph g = new Graph();
            g.n = n;
            int at = 0;
            for (int a = 0; a < n; a++) {
                for (int b = 0; b < a; b++) {
                    g.set(a, b, (bits >> at++ & 1) == 1);
                }
            }
            if (isFree(g)) {
                most = Math.max(most, countOf(g, m, form));
            }
        }
        return most;
    }

    // ---- the limit

    public int part(int weight) {
        if (!in(weight, 1, 9)) {
            return BAD;
        }
        if (s.weights.size() == 5) {
            return FULL;
        }
        s.weights.add(weight);
        return s.weights.size() - 1;
    }

    public int chance(int a, int b, int v) {
        int k = s.weights.size();
        if (!in(a, 0, k - 1) || !in(b, 0, k - 1) || !in(v, 0, 4)) {
            return BAD;
        }
        int was = chanceOf(a, b);
        s.chances.put(Math.min(a, b) * 10 + Math.max(a, b), v);
        return was;
    }

    public int bare() {
        int had = s.weights.size();
        s.weights.clear();
        s.chances.clear();
        return had;
    }

    public long at(int m, int form, int part) {
        if (!isForm(m, form) || !in(part, 0, 1)) {
            return BAD;
        }
        return s.weights.isEmpty() ? NONE : atOf(m, form).part(part);
    }

    public int freeAt() {
        return s.weights.isEmpty() ? NONE : limitFree() ? 1 : 0;
    }

    public int blow(int net) {
        if (!isNet(net)) {
            return BAD;
        }
        Graph g = s.nets.get(net);
        if (g.n > 5) {
            return STATE;
        }
        bare();
        for (int p = 0; p < g.n; p++) {
            s.weights.add(1);
        }
        for (int p = 0; p < g.n; p++) {
            for (int q = p + 1; q < g.n; q++) {
                s.chances.put(p * 10 + q, g.has[p][q] ? 4 : 0);
            }
        }
        return g.n;
    }

    public int near(int net, int n) {
        if (!isNet(net) || !in(n, 1, 10)) {
            return BAD;
        }
        int k = s.weights.size();
        if (k == 0) {
            return NONE;
        }
        int all = s.weights.stream().mapToInt(w -> w).sum();
        int[] sizes = new int[k];
        List<Integer> byRest = new ArrayList<>();
        int left = n;
        for (int p = 0; p < k; p++) {
            sizes[p] = n * s.weights.get(p) / all;
            left -= sizes[p];
            byRest.add(p);
        }
        byRest.sort((p, q) -> n * s.weights.get(q) % all - n * s.weights.get(p) % all); // stable: the first of several
        for (int i = 0; i < left; i++) {
            sizes[byRest.get(i)]++;
        }
        List<Integer> partOf = new ArrayList<>();
        for (int p = 0; p < k; p++) {
            for (int i = 0; i < sizes[p]; i++) {
                partOf.add(p);
            }
        }
        Graph g = new Graph();
        g.n = n;
        for (int b = 0; b < n; b++) {
            for (int a = 0; a < b; a++) {
                int c = chanceOf(partOf.get(a), partOf.get(b));
                g.set(a, b, c == 4 || c > 0 && next() % 4 < c);
            }
        }
        s.nets.set(net, g);
        return g.roads();
    }

    public int mixed(int net, int k) {
        if (!isNet(net) || !in(k, 0, 4)) {
            return BAD;
        }
        Graph g = s.nets.get(net);
        for (int b = 0; b < g.n; b++) {
            for (int a = 0; a < b; a++) {
                g.set(a, b, next() % 4 < k);
            }
        }
        return g.roads();
    }

    public int draw(int net, int m) {
        if (!isNet(net) || !in(m, 1, 4)) {
            return BAD;
        }
        Graph g = s.nets.get(net);
        if (g.n < m) {
            return NONE;
        }
        List<Integer> left = new ArrayList<>();
        for (int p = 0; p < g.n; p++) {
            left.add(p);
        }
        int[] drawn = new int[m];
        for (int i = 0; i < m; i++) {
            int place = next() % left.size();
            drawn[i] = left.remove(place);
        }
        return formOfPosts(g, drawn);
    }

    public int seed(int v) {
        int was = s.z;
        s.z = v;
        return was;
    }

    // ---- shares

    public int add(int kind, int a, int b) {
        boolean right = kind == 0 && in(a, 2, 3) && isForm(a, b)
            || (kind == 1 || kind == 3) && in(a, 0, 9999)
            || kind == 2 && in(a, -9, 9) && in(b, -9, 9);
        if (!right) {
            return BAD;
        }
        if (s.shares.size() == 6) {
            return FULL;
        }
        Thing t = new Thing();
        t.kind = kind;
        t.a = a;
        t.b = b;
        s.shares.add(t);
        return s.shares.size() - 1;
    }

    boolean isShare(int share) {
        return in(share, 0, s.shares.size() - 1);
    }

    public int shareOf(int share, int what) {
        if (!isShare(share) || !in(what, 0, 3)) {
            return BAD;
        }
        Thing t = s.shares.get(share);
        return new int[] {t.kind, t.a, t.b, t.weight}[what];
    }

    public int weight(int share, int v) {
        if (!isShare(share) || !in(v, 0, 99)) {
            return BAD;
        }
        int was = s.shares.get(share).weight;
        s.shares.get(share).weight = v;
        return was;
    }

    public long gives(int share, int i) {
        return !isShare(share) || !in(i, 0, 3) ? NO : givesOf(s.shares.get(share), i).part(0);
    }

    public long value(int share, int net, int part) {
        if (!isShare(share) || !isNet(net) || !in(part, 0, 1) || s.nets.get(net).n < 3) {
            return NO;
        }
        Ratio v = Ratio.of(0, 1);
        for (int i = 0; i < 4; i++) {
            Ratio third = givesOf(s.shares.get(share), i).times(Ratio.of(1, 3));
            v = v.plus(third.times(shareIn(s.nets.get(net), 3, FORMS.get(3).get(i))));
        }
        return v.part(part);
    }

    public long valueAt(int share, int part) {
        if (!isShare(share) || !in(part, 0, 1) || s.weights.isEmpty()) {
            return NO;
        }
        Ratio v = Ratio.of(0, 1);
        for (int i = 0; i < 4; i++) {
            Ratio third = givesOf(s.shares.get(share), i).times(Ratio.of(1, 3));
            v = v.plus(third.times(atOf(3, FORMS.get(3).get(i))));
        }
        return v.part(part);
    }

    public long bound(int m, int form, int part) {
        if (!in(m, 2, 3) || !isForm(m, form) || !in(part, 0, 1) || heapOf(3) == 0) {
            return NO;
        }
        return boundOf(m, form).part(part);
    }

    public long slack(int m, int form, int i, int part) {
        if (!in(m, 2, 3) || !isForm(m, form) || !in(part, 0, 1) || !in(i, 0, 3) || (heapOf(3) >> i & 1) == 0) {
            return NO;
        }
        return boundOf(m, form).minus(heightOf(m, form, i)).part(part);
    }

    public int tight(int m, int form) {
        if (!in(m, 2, 3) || !isForm(m, form)) {
            return BAD;
        }
        if (heapOf(3) == 0) {
            return NONE;
        }
        int bits = 0;
        for (int i = 0; i < 4; i++) {
            bits |= slack(m, form, i, 0) == 0 ? 1 << i : 0;
        }
        return bits;
    }

    public int met(int m, int form) {
        if (!in(m, 2, 3) || !isForm(m, form)) {
            return BAD;
        }
        if (heapOf(3) == 0 || s.weights.isEmpty()) {
            return NONE;
        }
        return limitFree() && atOf(m, form).compare(boundOf(m, form)) == 0 ? 1 : 0;
    }

    // ---- rows

    static List<int[]> rowsOf(Graph g, int m) {
        List<int[]> rows = new ArrayList<>();
        counts(g, m).forEach((form, count) -> rows.add(new int[] {form, count}));
        return rows;
    }

    public int prove(int net, int m) {
        if (!isNet(net) || !in(m, 1, 4)) {
            return BAD;
        }
        proved = rowsOf(s.nets.get(net), m);
        return proved.size();
    }

    public int row(int i, int what) {
        return in(i, 0, proved.size() - 1) && in(what, 0, 1) ? proved.get(i)[what] : -9;
    }

    public int alterRow(int i, int what, int v) {
        int was = row(i, what);
        if (in(i, 0, proved.size() - 1) && in(what, 0, 1)) {
            proved.get(i)[what] = v;
        }
        return was;
    }

    public int judge(int net, int m) {
        if (!isNet(net) || !in(m, 1, 4)) {
            return BAD;
        }
        List<int[]> must = rowsOf(s.nets.get(net), m);
        for (int i = 0; i < proved.size(); i++) {
            if (i >= must.size() || !Arrays.equals(must.get(i), proved.get(i))) {
                return i + 1;
            }
        }
        return proved.size() < must.size() ? 222 : 0;
    }

    // ---- the host

    public int sheet(int sheet, int sort, int n) {
        if (!in(sheet, 0, 3) || !in(sort, -1, 3)) {
            return BAD;
        }
        if (sort == -1) {
            sheets[sheet] = null;
            return 1;
        }
        if (n > 40) {
            return BAD;
        }
        if (n < 0) {
            return -14;
        }
        sheets[sheet] = sort == 0 ? new byte[n] : sort == 1 ? new short[n] : sort == 2 ? new int[n] : new long[n];
        return 1;
    }

    static int sortOf(Object row) {
        return row instanceof byte[] ? 0 : row instanceof short[] ? 1 : row instanceof int[] ? 2 : 3;
    }

    public int put(int sheet, int i, int v) {
        if (!in(sheet, 0, 3)) {
            return BAD;
        }
        Object row = sheets[sheet];
        if (row == null) {
            return -11;
        }
        if (!in(i, 0, java.lang.reflect.Array.getLength(row) - 1)) {
            return -12;
        }
        if (row instanceof byte[] b) {
            b[i] = (byte) v;
        } else if (row instanceof short[] h) {
            h[i] = (short) v;
        } else if (row instanceof int[] n) {
            n[i] = v;
        } else if (row instanceof long[] l) {
            l[i] = v;
        }
        return 1;
    }

    public int item(int sheet, int sort, int i) {
        if (!in(sheet, 0, 3) || !in(sort, 0, 3)) {
            return BAD;
        }
        Object row = sheets[sheet];
        if (row == null) {
            return -11;
        }
        if (sortOf(row) != sort) {
            return -13;
        }
        if (!in(i, 0, java.lang.reflect.Array.getLength(row) - 1)) {
            return -12;
        }
        return (int) java.lang.reflect.Array.getLong(row, i);
    }

    public int shelf(int shelf, int what, int n) {
        if (!in(shelf, 0, 3) || !in(what, 0, 2) || what == 0 && !isShare(n) || what == 1 && !in(n, 0, 3)) {
            return BAD;
        }
        shelves[shelf] = what == 0 ? (Object) n : what == 1 ? sheets[n] : null;
        return 1;
    }

    Object heldOn(int shelf) {
        return shelves[shelf] instanceof Integer n && !isShare(n) ? null : shelves[shelf];
    }

    public int taken(int shelf, int as) {
        if (!in(shelf, 0, 3) || !in(as, 0, 3) && !in(as, 10, 13)) {
            return BAD;
        }
        Object held = heldOn(shelf);
        if (held == null) {
            return -11;
        }
        if (held instanceof Integer n) {
            for (int kind = s.shares.get(n).kind; kind >= 0; kind = kind == 0 ? -1 : kind == 1 ? 0 : 1) {
                if (kind == as) {
                    return n;
                }
            }
            return -13;
        }
        return as - 10 == sortOf(held) ? java.lang.reflect.Array.getLength(held) : -13;
    }

    static final class PartedBy0 extends RuntimeException {
        private static final long serialVersionUID = 1;
    }

    /** Bodies by kind and act; 0 where the kind takes its elder's. */
    static final int[][] BODIES = {{10, 11, 12, 13}, {0, 20, 21, 0}, {30, 31, 0, 0}, {40, 0, 0, 41}};
    static final int[] ELDER = {-1, 0, 1, 1};

    int run(int kind, int act, int x, int n, Thing t) {
        int k = kind;
        while (BODIES[k][act] == 0) {
            k = ELDER[k];
        }
        int body = BODIES[k][act];
        bodies.add(body);
        int up = ELDER[k];
        switch (body) {
            case 10: return x + n;
            case 11: return run(t.kind, 0, x, n, t) * 2;
            case 12:
                if (t.a == n) {
                    throw new PartedBy0();
                }
                return x / (t.a - n);
            case 13: return run(t.kind, 1, x, n, t) ^ t.a;
            case 20: return run(up, 1, x, n, t) - t.a;
            case 21: return run(up, 2, x + 1, n, t);
            case 30: return run(up, 0, x, n, t) * 3;
            case 31: return run(up, 1, x, n, t) + run(t.kind, 2, n, n, t);
            case 40: return -run(up, 0, x, n, t);
            default: return run(up, 3, x, n, t) * 2;
        }
    }

    public int act(int shelf, int act, int x) {
        bodies.clear();
        if (!in(shelf, 0, 3) || !in(act, 0, 3) || !(heldOn(shelf) instanceof Integer n)) {
            return 0;
        }
        try {
            return run(s.shares.get(n).kind, act, x, n, s.shares.get(n));
        } catch (PartedBy0 e) {
            return -15;
        }
    }

    public int trace(int i) {
        return in(i, 0, Math.min(30, bodies.size()) - 1) ? bodies.get(i) : NONE;
    }

    public int many(int what) {
        switch (what) {
            case 0: return s.weights.size();
            case 1: return s.shares.size();
            case 2: return s.outs.size();
            case 3: return proved.size();
            case 4: return tape.size();
            case 5: return Math.min(30, bodies.size());
            default: return BAD;
        }
    }

    // ---- kept

    public int keep() {
        kept = s.copy();
        return 1;
    }

    public int again() {
        if (kept == null) {
            return NONE;
        }
        s = kept.copy();
        return 1;
    }
}
