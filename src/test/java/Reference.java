import java.math.BigInteger;
import java.util.ArrayList;
import java.util.Arrays;
import java.util.Collections;
import java.util.HashSet;
import java.util.LinkedHashMap;
import java.util.List;
import java.util.Map;
import java.util.Set;
import java.util.TreeMap;
import java.util.TreeSet;

/** The document once more, written apart from the class and as plainly as the Java library lets it: RandomRuns holds the class against it. */
final class Reference {
    static final int NONE = -1, RANGE = -2, FULL = -3, STATE = -4, OFF = -2000000000;

    record Item(String name, List<Integer> n) { }
    record Token(char kind, String text, int place) { }
    record Pair(int a, int b) { }

    static final class Fault extends Exception {
        final int kind, place;
        Fault(int kind, int place) { this.kind = kind; this.place = place; }
    }

    static final class World {
        final Map<String, List<Item>> items = new TreeMap<>();
        int clauses;
        List<Item> of(String kind) { return items.computeIfAbsent(kind, k -> new ArrayList<>()); }
        int one(String kind, int unless) { return of(kind).isEmpty() ? unless : of(kind).get(0).n().get(0); }
    }

    static final class Cells {
        int n = 2, ticks;
        long[] out = new long[2];
        int[] right = new int[40], left = new int[40], lets = new int[40], back = new int[40];
        Cells(int n) { this.n = n; Arrays.fill(lets, 100); }
        Cells(Cells c) {
            n = c.n; ticks = c.ticks; out = c.out.clone();
            right = c.right.clone(); left = c.left.clone(); lets = c.lets.clone(); back = c.back.clone();
        }
    }

    static final class Note {
        final int told, said;
        final List<int[]> as = new ArrayList<>();
        Note(int told, int said, int written) { this.told = told; this.said = said; as.add(new int[] {told, written}); }
    }

    private final List<Integer> tape = new ArrayList<>();
    private World world = new World();
    private int faultKind, faultPlace = NONE;
    private int stuff, tin, yards = 10, pull;
    private final List<Integer> bends = new ArrayList<>(), ties = new ArrayList<>();
    private Cells cells = new Cells(2);
    private final Cells[] slots = new Cells[3];
    private final Set<Pair> wishes = new HashSet<>();
    private final List<Note> notes = new ArrayList<>();
    private int rights, latest;

    // ---- the tape and its tokens

    int feed(int... v) {
        if (tape.size() > 880) return FULL;
        for (int i : v) for (int k = 3; k >= 0; k--) tape.add(i >>> 8 * k & 255);
        return tape.size();
    }

    int end(int n) {
        if (n < 0 || n > tape.size()) return NONE;
        while (tape.size() > n) tape.remove(tape.size() - 1);
        return n;
    }

    private String text() {
        StringBuilder b = new StringBuilder();
        for (int c : tape) b.append((char) c);
        tape.clear();
        return b.toString();
    }

    /** All tokens: w, n, ;, ! (none), $ (the end). */
    private static List<Token> tokens(String s) {
        List<Token> all = new ArrayList<>();
        java.util.regex.Matcher m = java.util.regex.Pattern.compile("([a-z]+)|([0-9]+)|(;)|[ \\n]+|([\\s\\S])").matcher(s);
        while (m.find()) {
            String t = m.group();
            if (m.group(1) != null) all.add(new Token(t.length() > 8 ? '!' : 'w', t, m.start()));
            else if (m.group(2) != null) all.add(new Token(t.length() > 4 ? '!' : 'n', t, m.start()));
            else if (m.group(3) != null) all.add(new Token(';', t, m.start()));
            else if (m.group(4) != null) all.add(new Token('!', t, m.start()));
        }
        all.add(new Token('$', "", s.length()));
        return all;
    }

    // ---- the street

    /** By first word: name or none, bounds of each N, room. */
    private static final Map<String, String> SHAPES = new LinkedHashMap<>();
    static {
        SHAPES.put("stuff", "W 1-99 0-999 0-999 0-999 0-999");
        SHAPES.put("tin", "W 0-100 0-100 0-100 0-100");
        SHAPES.put("word", "W 0-9 0-9 0-9 0-9");
        SHAPES.put("house", "W 0-99 0-99");
        SHAPES.put("post", "0-99 0-99");
        SHAPES.put("loop", "W 1-9 0-9 0-9 0-9 0-9");
        SHAPES.put("wet", "0-90");
        SHAPES.put("wind", "0-50");
        SHAPES.put("noise", "0-3");
    }
    private static final Map<String, Integer> ROOM = Map.of("stuff", 4, "tin", 4, "word", 6, "house", 5, "post", 4, "loop", 4);
    private static final String[] KINDS = {"stuff", "tin", "word", "house", "post", "loop", "wet", "wind", "noise"};

    private static World parse(String s) throws Fault {
        World w = new World();
        List<Token> ts = tokens(s);
        int i = 0;
        while (ts.get(i).kind() != '$') {
            Token t = ts.get(i++);
            if (t.kind() != 'w' || !SHAPES.containsKey(t.text())) throw new Fault(1, t.place());
            String kind = t.text();
            if (ROOM.containsKey(kind) && w.of(kind).size() == ROOM.get(kind)) throw new Fault(4, t.place());
            if (!ROOM.containsKey(kind) && !w.of(kind).isEmpty()) throw new Fault(3, t.place());
            String name = null;
            List<Integer> ns = new ArrayList<>();
            for (String part : SHAPES.get(kind).split(" ")) {
                t = ts.get(i++);
                if (part.equals("W")) {
                    if (t.kind() != 'w') throw new Fault(1, t.place());
                    for (Item it : w.of(kind)) if (it.name().equals(t.text())) throw new Fault(3, t.place());
                    name = t.text();
                } else {
                    if (t.kind() != 'n') throw new Fault(1, t.place());
                    int n = Integer.parseInt(t.text());
                    String[] b = part.split("-");
                    if (n < Integer.parseInt(b[0]) || n > Integer.parseInt(b[1])) throw new Fault(2, t.place());
                    ns.add(n);
                    if (ns.size() == 2 && (kind.equals("house") || kind.equals("post")))
                        for (Item it : w.of(kind)) if (it.n().equals(ns)) throw new Fault(3, t.place());
                }
            }
            t = ts.get(i++);
            if (t.kind() != ';') throw new Fault(1, t.place());
            w.of(kind).add(new Item(name, ns));
            w.clauses++;
        }
        return w;
    }

    int street() {
        try {
            world = parse(text());
        } catch (Fault f) {
            faultKind = f.kind;
            faultPlace = f.place;
            return NONE;
        }
        faultKind = 0;
        faultPlace = NONE;
        stuff = tin = pull = 0;
        yards = 10;
        bends.clear();
        ties.clear();
        wishes.clear();
        notes.clear();
        rights = latest = 0;
        return world.clauses;
    }

    int fault(int what) { return what == 0 ? faultKind : what == 1 ? faultPlace : NONE; }

    private int many(String kind) { return world.of(kind).size(); }
    private boolean is(String kind, int k) { return k >= 0 && k < many(kind); }
    private int n(String kind, int k, int i) { return world.of(kind).get(k).n().get(i); }
    private int noise() { return world.one("noise", 1); }

    int told(int what) {
        if (what >= 0 && what <= 5) return many(KINDS[what]);
        if (what == 6) return world.one("wet", 0);
        if (what == 7) return world.one("wind", 0);
        if (what == 8) return noise();
        if (what >= 10 && what < 20 && is("stuff", what - 10)) return n("stuff", what - 10, 0);
        if (what >= 20 && what < 30 && is("loop", what - 20)) return n("loop", what - 20, 0);
        return NONE;
    }

    private int banded(String kind, int k, int b) {
        List<Integer> ns = world.of(kind).get(k).n();
        return ns.get(ns.size() - 4 + b);
    }

    int band(int kind, int k, int b) {
        String[] of = {"stuff", "tin", "word", "loop"};
        if (kind < 0 || kind > 3 || !is(of[kind], k) || b < 0 || b > 3) return RANGE;
        return banded(of[kind], k, b);
    }

    // ---- the line

    int line(int s, int t, int y, int p) {
        if (!is("stuff", s) || !is("tin", t) || y < 1 || y > 400 || p < 0 || p > 99) return RANGE;
        stuff = s; tin = t; yards = y; pull = p;
        return 1;
    }

    int bend(int loop) {
        if (loop != -1 && !is("loop", loop)) return RANGE;
        if (bends.size() == 4) return FULL;
        bends.add(loop);
        return bends.size();
    }

    int tie(int h) {
        if (h < 0 || h > 100) return RANGE;
        if (ties.size() == 4) return FULL;
        ties.add(h);
        return ties.size();
    }

    int straighten() {
        int were = bends.size() + ties.size();
        bends.clear();
        ties.clear();
        return were;
    }

    private int strength() { return Math.max(0, n("stuff", stuff, 0) * (100 - world.one("wet", 0)) / 100 - world.one("wind", 0)); }

    private int hands() {
        int s = strength();
        if (pull == 0 || pull > s) return 0;
        return 2 * pull >= s ? 100 : 200 * pull / s;
    }

    int bears(int what) {
        if (what < 0 || what > 4) return RANGE;
        if (many("stuff") == 0) return STATE;
        return new int[] {strength(), hands(), pull > strength() ? 1 : 0, bends.size(), ties.size()}[what];
    }

    private boolean lacks() { return many("stuff") == 0 || many("tin") == 0; }

    /** What there is on the way: before tie k, or (k NONE) at the far end. */
    private int comes(int loud, int b, int k) {
        int v = 1000 * loud;
        v = v * banded("tin", tin, b) / 100;
        v = v * hands() / 100;
        for (int y = 0; y < yards; y++) v = v * (1000 - banded("stuff", stuff, b)) / 1000;
        for (int l : bends) v = l < 0 ? 0 : v * (100 - 10 * Math.abs(n("loop", l, 0) - banded("loop", l, b))) / 100;
        for (int i = 0; i < (k < 0 ? ties.size() : k); i++) v = v * (100 - ties.get(i)) / 100;
        return k < 0 ? v * banded("tin", tin, b) / 100 : v;
    }

    int through(int loud, int b) {
        if (loud < 0 || loud > 9 || b < 0 || b > 3) return RANGE;
        return lacks() ? STATE : comes(loud, b, -1);
    }

    int share(int k, int loud, int b) {
        if (k < 0 || k >= ties.size() || loud < 0 || loud > 9 || b < 0 || b > 3) return RANGE;
        return lacks() ? STATE : comes(loud, b, k) * ties.get(k) / 100;
    }

    private int lev(int w, int b) { return Math.min(9, comes(banded("word", w, b), b, -1) / 500); }

    int level(int w, int b) {
        if (!is("word", w) || b < 0 || b > 3) return RANGE;
        return lacks() ? STATE : lev(w, b);
    }

    // ---- words

    private int ear(int[] row, int[][] lv, int set) {
        int best = -1, off = 0;
        for (int w = 0; w < lv.length; w++) {
            if ((set >> w & 1) == 0) continue;
            int o = 0;
            for (int b = 0; b < 4; b++) o += Math.abs(row[b] - lv[w][b]);
            if (best < 0 || o < off) { best = w; off = o; }
        }
        return best;
    }

    private int[][] levels() {
        int[][] lv = new int[many("word")][4];
        for (int w = 0; w < lv.length; w++) for (int b = 0; b < 4; b++) lv[w][b] = lev(w, b);
        return lv;
    }

    private final Map<String, int[]> heard = new LinkedHashMap<>();

    private int[] row(int[][] lv, int set, int a) {
        String key = Arrays.deepToString(lv) + set + "/" + a + "/" + noise();
        if (heard.size() > 20000) heard.clear();
        return heard.computeIfAbsent(key, k -> rowAnew(lv, set, a));
    }

    private int[] rowAnew(int[][] lv, int set, int a) {
        int n = noise();
        int[] ways = new int[6];
        for (int code = 0; code < (2 * n + 1) * (2 * n + 1) * (2 * n + 1) * (2 * n + 1); code++) {
            int[] row = new int[4];
            int weight = 1, rest = code;
            for (int b = 0; b < 4; b++) {
                int v = rest % (2 * n + 1) - n;
                rest /= 2 * n + 1;
                weight *= n + 1 - Math.abs(v);
                row[b] = Math.max(0, Math.min(9, lv[a][b] + v));
            }
            ways[ear(row, lv, set)] += weight;
        }
        return ways;
    }

    private int all() { return (1 << many("word")) - 1; }

    int table(int a, int b) {
        if (!is("word", a) || !is("word", b)) return RANGE;
        return lacks() ? STATE : row(levels(), all(), a)[b];
    }

    int among(int set, int a, int b) {
        if (set < 0 || set > all() || !is("word", a) || !is("word", b)) return RANGE;
        if ((set & 1 << a) == 0 || (set & 1 << b) == 0) return RANGE;
        return lacks() ? STATE : row(levels(), set, a)[b];
    }

    int longest(int word, int u, int w) {
        if (!is("word", word) || u < 0 || u > 65536 || w < 1 || w > 65536) return RANGE;
        if (lacks()) return STATE;
        int was = yards, best = NONE;
        BigInteger total = BigInteger.valueOf(noise() + 1).pow(8);
        for (int y = 400; y >= 1 && best == NONE; y--) {
            yards = y;
            BigInteger good = BigInteger.valueOf(row(levels(), all(), word)[word]).multiply(BigInteger.valueOf(w));
            if (good.compareTo(total.multiply(BigInteger.valueOf(u))) >= 0) best = y;
        }
        yards = was;
        return best;
    }

    private int worst(int set) {
        int least = Integer.MAX_VALUE;
        int[][] lv = levels();
        for (int w = 0; w < lv.length; w++) if ((set >> w & 1) == 1) least = Math.min(least, row(lv, set, w)[w]);
        return least;
    }

    private static int firstGreatest(List<Integer> of) { return of.indexOf(Collections.max(of)); }

    int best(int kind) {
        if (kind < 0 || kind > 1) return RANGE;
        if (lacks()) return STATE;
        if (many("word") == 0) return NONE;
        int s = stuff, t = tin;
        List<Integer> got = new ArrayList<>();
        for (int i = 0; i < many(KINDS[kind]); i++) {
            if (kind == 0) stuff = i; else tin = i;
            got.add(worst(all()));
        }
        stuff = s;
        tin = t;
        return firstGreatest(got);
    }

    int bestLoop(int k) {
        if (k < 0 || k >= bends.size()) return RANGE;
        if (lacks()) return STATE;
        if (many("word") == 0 || many("loop") == 0) return NONE;
        int was = bends.get(k);
        List<Integer> got = new ArrayList<>();
        for (int i = 0; i < many("loop"); i++) {
            bends.set(k, i);
            got.add(worst(all()));
        }
        bends.set(k, was);
        return firstGreatest(got);
    }

    int list(int k) {
        if (k < 1 || k > many("word")) return RANGE;
        if (lacks()) return STATE;
        List<Integer> sets = new ArrayList<>(), got = new ArrayList<>();
        for (int set = 1; set <= all(); set++) {
            if (Integer.bitCount(set) == k) {
                sets.add(set);
                got.add(worst(set));
            }
        }
        return sets.get(firstGreatest(got));
    }

    int said(int word, int seed) {
        if (!is("word", word) || seed < 0) return RANGE;
        if (lacks()) return STATE;
        List<Integer> ways = new ArrayList<>();
        for (int v = -noise(); v <= noise(); v++) for (int i = 0; i < noise() + 1 - Math.abs(v); i++) ways.add(v);
        BigInteger s = BigInteger.valueOf(seed);
        int[][] lv = levels();
        int[] row = new int[4];
        for (int b = 0; b < 4; b++) {
            s = s.multiply(BigInteger.valueOf(1103515245)).add(BigInteger.valueOf(12345)).mod(BigInteger.TWO.pow(31));
            int drawn = (int) (s.longValue() / 65536 % ways.size());
            row[b] = Math.max(0, Math.min(9, lv[word][b] + ways.get(drawn)));
        }
        return ear(row, lv, all());
    }

    // ---- cells

    int stretch(int n) {
        if (n < 2 || n > 40) return RANGE;
        cells = new Cells(n);
        return n;
    }

    int cell(int i, int lets, int back) {
        if (i < 0 || i >= cells.n || lets < 0 || lets > 100 || back < 0 || back > 100 || lets + back > 100) return RANGE;
        cells.lets[i] = lets;
        cells.back[i] = back;
        return 1;
    }

    private static int bound(int v) { return v > 999999 ? 999999 : v < -999999 ? -999999 : v; }

    int send(int side, int v) {
        if (side < 0 || side > 1 || v < -9999 || v > 9999) return RANGE;
        if (side == 0) return cells.right[0] = bound(cells.right[0] + v);
        return cells.left[cells.n - 1] = bound(cells.left[cells.n - 1] + v);
    }

    int tick(int n) {
        if (n < 0 || n > 400) return RANGE;
        for (int t = 0; t < n; t++) {
            int[] r = new int[42], l = new int[42];
            for (int i = 0; i < cells.n; i++) {
                r[i + 2] += cells.right[i] * cells.lets[i] / 100;
                l[i] += cells.right[i] * cells.back[i] / 100;
                l[i] += cells.left[i] * cells.lets[i] / 100;
                r[i + 2] += cells.left[i] * cells.back[i] / 100;
            }
            cells.out[0] += l[0];
            cells.out[1] += r[cells.n + 1];
            for (int i = 0; i < cells.n; i++) {
                cells.right[i] = bound(r[i + 1]);
                cells.left[i] = i + 1 < cells.n ? bound(l[i + 1]) : 0;
            }
            cells.ticks++;
        }
        return cells.ticks;
    }

    int goes(int i, int what) {
        if (i < 0 || i >= cells.n || what < 0 || what > 3) return OFF;
        return new int[][] {cells.right, cells.left, cells.lets, cells.back}[what][i];
    }

    long out(int side) { return side < 0 || side > 1 ? OFF : cells.out[side]; }

    int keep(int slot) {
        if (slot < 0 || slot > 2) return RANGE;
        slots[slot] = new Cells(cells);
        return cells.ticks;
    }

    int take(int slot) {
        if (slot < 0 || slot > 2) return RANGE;
        if (slots[slot] == null) return STATE;
        cells = new Cells(slots[slot]);
        return cells.ticks;
    }

    // ---- houses

    private boolean two(int a, int b) { return a != b && is("house", a) && is("house", b); }

    private int string(int a, int b) {
        int ax = n("house", a, 0), ay = n("house", a, 1), bx = n("house", b, 0), by = n("house", b, 1);
        double far = Math.hypot(bx - ax, by - ay);
        for (int p = 0; p < many("post"); p++) {
            int px = n("post", p, 0), py = n("post", p, 1);
            // By way of a post that isn't on it, the way is longer by 7e-7 at least.
            if (Math.hypot(px - ax, py - ay) + Math.hypot(px - bx, py - by) - far < 1e-8) return NONE;
        }
        return (int) Math.ceil(far - 1e-9);
    }

    int yards(int a, int b) { return two(a, b) ? string(a, b) : RANGE; }

    int wish(int a, int b) {
        if (!two(a, b)) return RANGE;
        wishes.add(new Pair(Math.min(a, b), Math.max(a, b)));
        return wishes.size();
    }

    int least(int most, int what) {
        if (most < 1 || most > 4 || what < 0 || what > 1) return RANGE;
        int h = many("house"), bestYards = NONE, bestSet = NONE;
        List<Pair> pairs = new ArrayList<>();
        for (int a = 0; a < h; a++) for (int b = a + 1; b < h; b++) pairs.add(new Pair(a, b));
        for (int set = 0; set < 1 << pairs.size(); set++) {
            int[][] hops = new int[h][h];
            for (int a = 0; a < h; a++) for (int b = 0; b < h; b++) hops[a][b] = a == b ? 0 : 99;
            int sum = 0;
            boolean ok = true;
            for (int p = 0; p < pairs.size(); p++) {
                if ((set >> p & 1) == 0) continue;
                Pair q = pairs.get(p);
                int y = string(q.a(), q.b());
                ok &= y != NONE;
                sum += y;
                hops[q.a()][q.b()] = hops[q.b()][q.a()] = 1;
            }
            for (int k = 0; k < h; k++) for (int a = 0; a < h; a++) for (int b = 0; b < h; b++)
                hops[a][b] = Math.min(hops[a][b], hops[a][k] + hops[k][b]);
            for (Pair q : wishes) ok &= hops[q.a()][q.b()] <= most;
            if (ok && (bestYards == NONE || sum < bestYards)) { bestYards = sum; bestSet = set; }
        }
        return what == 0 ? bestYards : bestSet;
    }

    // ---- taps

    private static final List<String> ROWS = rows();

    private static int lasts(String row) {
        int d = row.length() - 1;
        for (char c : row.toCharArray()) d += c == 's' ? 1 : 3;
        return d;
    }

    /** All rows of up to 9 taps (any longer one lasts 19 at least, and more than 100 last less), in order; a: short, b: long. */
    private static List<String> rows() {
        TreeSet<String> set = new TreeSet<>((p, q) -> lastsOf(p) != lastsOf(q) ? Integer.compare(lastsOf(p), lastsOf(q)) : p.compareTo(q));
        for (int len = 1; len <= 9; len++) for (int code = 0; code < 1 << len; code++) {
            StringBuilder b = new StringBuilder();
            for (int i = len - 1; i >= 0; i--) b.append((code >> i & 1) == 1 ? 'b' : 'a');
            set.add(b.toString());
        }
        return new ArrayList<>(set);
    }

    private static int lastsOf(String row) { return lasts(row.replace('a', 's').replace('b', 'l')); }

    private List<Integer> numbersOnTape() {
        List<Integer> got = new ArrayList<>();
        for (Token t : tokens(text())) {
            if (t.kind() == 'n') got.add(Integer.parseInt(t.text()));
            else if (t.kind() != '$') return null;
        }
        return got;
    }

    int taps() {
        List<Integer> w = numbersOnTape();
        if (w == null || w.isEmpty() || w.size() > 16) return NONE;
        w.sort(Collections.reverseOrder());
        int sum = 0;
        for (int i = 0; i < w.size(); i++) sum += w.get(i) * lastsOf(ROWS.get(i));
        return sum;
    }

    int tapRow(int k, int what) {
        if (k < 0 || k > 99 || what < 0 || what > 2) return RANGE;
        String r = ROWS.get(k);
        if (what == 0) return lastsOf(r);
        return what == 1 ? r.length() : Integer.parseInt(r.replace('a', '0').replace('b', '1'), 2);
    }

    // ---- what was written

    int write(int told, int said, int written) {
        if (told < latest || told > 999 || !is("word", said) || !is("word", written)) return RANGE;
        if (notes.size() == 20) return FULL;
        latest = told;
        notes.add(new Note(told, said, written));
        return notes.size() - 1;
    }

    int right(int told, int k, int written) {
        if (told < latest || told > 999 || k < 0 || k >= notes.size() || !is("word", written)) return RANGE;
        if (rights == 20) return FULL;
        latest = told;
        rights++;
        notes.get(k).as.add(new int[] {told, written});
        return notes.get(k).as.size() - 1;
    }

    int fit(int known, int what) {
        if (known < 0 || known > 999 || what < 0 || what > 2) return RANGE;
        if (lacks()) return STATE;
        int s = stuff, y = yards;
        List<Integer> laws = new ArrayList<>();
        BigInteger greatest = null;
        int likeliest = NONE;
        for (int law = 0; law < 20 * many("stuff"); law++) {
            stuff = law / 20;
            yards = law % 20 * 10 + 10;
            BigInteger product = BigInteger.ONE;
            int[][] lv = levels();
            for (Note n : notes) {
                if (n.told > known) continue;
                int as = -1;
                for (int[] t : n.as) if (t[0] <= known) as = t[1];
                product = product.multiply(BigInteger.valueOf(row(lv, all(), n.said)[as]));
            }
            if (product.signum() == 0) continue;
            laws.add(law);
            if (greatest == null || product.compareTo(greatest) > 0) { greatest = product; likeliest = law; }
        }
        stuff = s;
        yards = y;
        return what == 0 ? laws.size() : laws.isEmpty() ? NONE : what == 1 ? laws.get(0) : likeliest;
    }

    int listened(int sent, int came, int slack) {
        List<Integer> h = numbersOnTape();
        for (int v : new int[] {sent, came, slack}) if (v < 0 || v > 99999) return RANGE;
        if (h == null || h.size() != 4 || Collections.max(h) > 100) return NONE;
        int bits = 0;
        for (int i = 0; i < 4; i++) {
            int due = sent * (100 - h.get(i)) / 100;
            if (due - came <= slack && came - due <= slack) bits += 1 << i;
        }
        return bits;
    }

    int count(int what) {
        if (what < 0 || what > 6) return NONE;
        return new int[] {world.clauses, notes.size(), rights, wishes.size(), cells.n, cells.ticks, tape.size()}[what];
    }
}
