import java.util.ArrayList;
import java.util.Arrays;
import java.util.List;
import java.util.TreeMap;

/**
 * The document in its slowest and plainest form, for RandomRunsTest: every CASE by itself, every
 * function tried, every placing tried. It shares no code and no idea of speed with GatePatch.
 */
public final class Model {
    static final int NONE = -1, RING = -2, FULL = -3, UNABLE = -4, SPARE = -5, SAME = 1000;
    static final int NOTHING = -11, CAST = -12, PLACE = -13, SIZE = -14, THROWN = -15;

    static final class Gate {
        final int kind;
        final int[] pins;
        Gate(int kind, int... pins) { this.kind = kind; this.pins = pins; }
        Gate twin() { return new Gate(kind, pins.clone()); }
    }

    static final class NetM {
        int i, s, o;
        List<Gate> gates = new ArrayList<>();
        int[] outs, nexts;
        List<int[]> places = new ArrayList<>();
        NetM(int i, int s, int o) {
            this.i = i; this.s = s; this.o = o;
            outs = new int[o];
            nexts = new int[s];
            for (int w = 0; w < i + s; w++) places.add(new int[] {0, 0});
        }
        NetM twin() {
            NetM t = new NetM(i, s, o);
            for (Gate g : gates) t.gates.add(g.twin());
            t.outs = outs.clone();
            t.nexts = nexts.clone();
            t.places = new ArrayList<>();
            for (int[] p : places) t.places.add(p.clone());
            return t;
        }
        int wires() { return i + s + gates.size(); }
        boolean wire(int w) { return w >= 0 && w < wires(); }
        boolean isGate(int w) { return w >= i + s && w < wires(); }
        Gate gateAt(int w) { return gates.get(w - i - s); }
        List<Integer> observed() {
            List<Integer> all = new ArrayList<>();
            for (int w : outs) all.add(w);
            for (int w : nexts) all.add(w);
            return all;
        }
        boolean hangs(int w, int other) { return hangs(w, other, new boolean[wires()]); }
        private boolean hangs(int w, int other, boolean[] seen) {
            if (w == other) return true;
            if (!isGate(w) || seen[w]) return false;
            seen[w] = true;
            for (int p : gateAt(w).pins) if (hangs(p, other, seen)) return true;
            return false;
        }
        int value(int w, int kase, TreeMap<Integer, Integer> forced) {
            return value(w, kase, forced, new int[wires()]);
        }
        private int value(int w, int kase, TreeMap<Integer, Integer> forced, int[] memo) {
            if (memo[w] == 0) memo[w] = 1 + find(w, kase, forced, memo);
            return memo[w] - 1;
        }
        private int find(int w, int kase, TreeMap<Integer, Integer> forced, int[] memo) {
            if (forced != null && forced.containsKey(w)) return forced.get(w);
            if (!isGate(w)) return kase >> w & 1;
            Gate g = gateAt(w);
            int[] v = new int[g.pins.length];
            for (int p = 0; p < v.length; p++) v[p] = value(g.pins[p], kase, forced, memo);
            return kindValue(g.kind, v);
        }
        List<Integer> observedValues(int kase, TreeMap<Integer, Integer> forced) {
            int[] memo = new int[wires()];
            List<Integer> all = new ArrayList<>();
            for (int w : observed()) all.add(value(w, kase, forced, memo));
            return all;
        }
    }

    static int kindValue(int kind, int... v) {
        switch (kind) {
            case 0: return v[0] == 0 ? 1 : 0;
            case 1: return v[0] == 1 && v[1] == 1 ? 1 : 0;
            case 2: return v[0] == 1 || v[1] == 1 ? 1 : 0;
            case 3: return v[0] != v[1] ? 1 : 0;
            case 4: return v[0] == 1 && v[1] == 1 ? 0 : 1;
            case 5: return v[0] == 1 || v[1] == 1 ? 0 : 1;
            case 6: return v[0] == 1 ? v[1] : v[2];
            case 7: return 0;
            default: return 1;
        }
    }

    static int pinCount(int kind) { return kind == 0 ? 1 : kind <= 5 ? 2 : kind == 6 ? 3 : 0; }

    static final class Node { int kind, first, second, point, spare = -2; }

    static final class PatchM {
        int[] points, told, functions, roots;
        List<Node> nodes = new ArrayList<>();
        boolean placed;
        int cost;
    }

    static final class SpareM { int kind, x, y; boolean used; }
    static final class Undo { NetM net; List<Boolean> used = new ArrayList<>(); }
    static final class TapeM { int sort; long[] row; NetM image; }

    NetM old, wish;
    boolean[] free;
    List<SpareM> spares;
    int[] delays;
    List<Undo> undos;
    TapeM[] tapes = new TapeM[6];
    PatchM patch;
    int[] kept;
    int[] clash;
    TreeMap<Integer, Integer> marks;
    List<int[]> changes;
    List<Integer> tests;
    int refusals;

    static final int[][] COSTS = new int[4][];
    static {
        for (int m = 0; m <= 3; m++) COSTS[m] = costs(m);
    }

    public Model() {
        for (int d = 0; d < 6; d++) tapes[d] = new TapeM();
        begin(3, 0, 1);
    }

    // COST by its definition: rounds of all pairs until nothing gets cheaper.
    static int[] costs(int m) {
        int all = (1 << (1 << m)) - 1;
        int[] cost = new int[all + 1];
        Arrays.fill(cost, 99);
        cost[0] = 0;
        cost[all] = 0;
        for (int j = 0; j < m; j++) cost[wireFunction(m, j)] = 0;
        for (boolean again = true; again; ) {
            again = false;
            for (int g = 0; g <= all; g++) {
                for (int h = 0; h <= all; h++) {
                    for (int kind = 0; kind <= 5; kind++) {
                        int f = over(m, kind, g, h);
                        int c = kind == 0 ? cost[g] + 1 : cost[g] + cost[h] + 1;
                        if (c < cost[f]) { cost[f] = c; again = true; }
                    }
                }
            }
        }
        return cost;
    }

    static int wireFunction(int m, int j) {
        int f = 0;
        for (int p = 0; p < 1 << m; p++) if ((p >> j & 1) == 1) f |= 1 << p;
        return f;
    }

    static int over(int m, int kind, int g, int h) {
        int f = 0;
        for (int p = 0; p < 1 << m; p++) f |= kindValue(kind, g >> p & 1, h >> p & 1) << p;
        return f;
    }

    NetM net(int n) { return n == 0 ? old : n == 1 ? wish : null; }
    int cases() { return free.length; }
    boolean isCase(int k) { return k >= 0 && k < cases(); }

    void touched(int net) {
        patch = null;
        if (net == 0) undos.clear();
    }

    public int begin(int inputs, int stores, int outputs) {
        if (inputs < 0 || stores < 0 || stores > 2 || outputs < 1 || outputs > 4) return NONE;
        if ((long) inputs + stores < 1 || (long) inputs + stores > 8) return NONE;
        old = new NetM(inputs, stores, outputs);
        wish = new NetM(inputs, stores, outputs);
        free = new boolean[1 << inputs + stores];
        spares = new ArrayList<>();
        delays = new int[] {1, 1, 1, 1, 1, 1, 1, 1, 1};
        undos = new ArrayList<>();
        patch = null;
        kept = new int[0];
        clash = null;
        marks = new TreeMap<>();
        changes = new ArrayList<>();
        tests = new ArrayList<>();
        refusals = 0;
        return cases();
    }

    public int gate(int net, int kind, int a, int b, int c) {
        NetM n = net(net);
        if (n == null || kind < 0 || kind > 8) return NONE;
        int[] given = {a, b, c};
        for (int p = 0; p < 3; p++) {
            if (p < pinCount(kind) ? !n.wire(given[p]) : given[p] != -1) return NONE;
        }
        if (n.gates.size() == (net == 0 ? 40 : 24)) return FULL;
        n.gates.add(new Gate(kind, Arrays.copyOf(given, pinCount(kind))));
        n.places.add(new int[] {0, 0});
        touched(net);
        return n.wires() - 1;
    }

    public int rewire(int net, int gate, int pin, int wire) {
        NetM n = net(net);
        if (n == null || !n.isGate(gate) || pin < 0 || pin >= n.gateAt(gate).pins.length || !n.wire(wire)) return NONE;
        if (n.hangs(wire, gate)) return RING;
        int was = n.gateAt(gate).pins[pin];
        n.gateAt(gate).pins[pin] = wire;
        touched(net);
        return was;
    }

    public int out(int net, int output, int wire) {
        NetM n = net(net);
        if (n == null || output < 0 || output >= n.o || !n.wire(wire)) return NONE;
        int was = n.outs[output];
        n.outs[output] = wire;
        touched(net);
        return was;
    }

    public int next(int net, int store, int wire) {
        NetM n = net(net);
        if (n == null || store < 0 || store >= n.s || !n.wire(wire)) return NONE;
        int was = n.nexts[store];
        n.nexts[store] = wire;
        touched(net);
        return was;
    }

    public int free(int kase) {
        if (!isCase(kase)) return NONE;
        free[kase] = !free[kase];
        patch = null;
        return free[kase] ? 1 : 0;
    }

    public int value(int net, int wire, int kase) {
        NetM n = net(net);
        if (n == null || !n.wire(wire) || !isCase(kase)) return NONE;
        return n.value(wire, kase, null);
    }

    public long row(int net, int wire, int part) {
        NetM n = net(net);
        if (n == null || !n.wire(wire) || part < 0 || part > 3) throw new IllegalArgumentException();
        long bits = 0;
        for (int k = 0; k < 64; k++) {
            if (isCase(64 * part + k) && n.value(wire, 64 * part + k, null) == 1) bits |= 1L << k;
        }
        return bits;
    }

    public int hangs(int net, int wire, int other) {
        NetM n = net(net);
        if (n == null || !n.wire(wire) || !n.wire(other)) return NONE;
        return n.hangs(wire, other) ? 1 : 0;
    }

    public int differ() {
        for (int k = 0; k < cases(); k++) {
            if (!free[k] && !old.observedValues(k, null).equals(wish.observedValues(k, null))) return k;
        }
        return SAME;
    }

    // null: not 1 to 3 GATES of OLD, rising
    int[] pointsOf(int... given) {
        int n = given.length;
        while (n > 0 && given[n - 1] == -1) n--;
        if (n == 0) return null;
        for (int k = 0; k < n; k++) {
            if (!old.isGate(given[k]) || k > 0 && given[k] <= given[k - 1]) return null;
        }
        return Arrays.copyOf(given, n);
    }

    boolean mends(int[] points, int assignment, int kase) {
        TreeMap<Integer, Integer> forced = new TreeMap<>();
        for (int k = 0; k < points.length; k++) forced.put(points[k], assignment >> k & 1);
        return old.observedValues(kase, forced).equals(wish.observedValues(kase, null));
    }

    int least(int[] points, int kase) {
        for (int q = 0; q < 1 << points.length; q++) if (mends(points, q, kase)) return q;
        return UNABLE;
    }

    int enough(int[] points) {
        for (int k = 0; k < cases(); k++) if (!free[k] && least(points, k) == UNABLE) return k;
        return SAME;
    }

    public int enough(int a, int b, int c) {
        int[] points = pointsOf(a, b, c);
        return points == null ? NONE : enough(points);
    }

    public int points(int n) {
        if (n < 1 || n > 3) return NONE;
        if (differ() == SAME) return 0;
        for (int size = 1; size <= n; size++) {
            int[] found = firstEnough(new int[0], size);
            if (found != null) {
                kept = found;
                return size;
            }
        }
        return UNABLE;
    }

    private int[] firstEnough(int[] chosen, int size) {
        if (chosen.length == size) return enough(chosen) == SAME ? chosen : null;
        int from = chosen.length == 0 ? old.i + old.s : chosen[chosen.length - 1] + 1;
        for (int g = from; g < old.wires(); g++) {
            int[] more = Arrays.copyOf(chosen, chosen.length + 1);
            more[chosen.length] = g;
            int[] found = firstEnough(more, size);
            if (found != null) return found;
        }
        return null;
    }

    public int point(int k) { return k >= 0 && k < kept.length ? kept[k] : NONE; }

    public int mend(int a, int b, int c, int kase) {
        int[] points = pointsOf(a, b, c);
        return points == null || !isCase(kase) ? NONE : least(points, kase);
    }

    boolean isTape(int d) { return d >= 0 && d < 6; }
    int refuse(int code) { refusals++; return code; }

    public int witness(int d, int a, int b, int c) {
        int[] points = pointsOf(a, b, c);
        if (!isTape(d) || points == null) return NONE;
        if (enough(points) != SAME) return UNABLE;
        TapeM t = new TapeM();
        t.sort = 1;
        t.row = new long[cases()];
        for (int k = 0; k < cases(); k++) t.row[k] = free[k] ? 0 : least(points, k);
        tapes[d] = t;
        return cases();
    }

    public int judge(int d, int a, int b, int c) {
        int[] points = pointsOf(a, b, c);
        if (!isTape(d) || points == null) return NONE;
        if (tapes[d].sort == 0) return refuse(NOTHING);
        if (tapes[d].sort != 1) return refuse(CAST);
        for (int k = 0; k < cases(); k++) {
            if (free[k]) continue;
            if (k >= tapes[d].row.length) return refuse(PLACE);
            long e = tapes[d].row[k];
            if (e < 0 || e >= 1 << points.length || !mends(points, (int) e, k)) return k;
        }
        return SAME;
    }

    int pattern(int[] told, int kase) {
        int p = 0;
        for (int j = 0; j < told.length; j++) p |= old.value(told[j], kase, null) << j;
        return p;
    }

    // null if there is a CLASH, which is put into found
    PatchM findPatch(int[] points, int[] told, int[] found) {
        int patterns = 1 << told.length;
        int assignments = 1 << points.length;
        boolean[][] allowed = new boolean[patterns][assignments];
        int[] first = new int[patterns];
        Arrays.fill(first, -1);
        for (boolean[] a : allowed) Arrays.fill(a, true);
        for (int k = 0; k < cases(); k++) {
            if (free[k]) continue;
            int p = pattern(told, k);
            if (first[p] < 0) first[p] = k;
            boolean any = false;
            for (int q = 0; q < assignments; q++) {
                allowed[p][q] &= mends(points, q, k);
                any |= allowed[p][q];
            }
            if (!any) {
                found[0] = first[p];
                found[1] = k;
                return null;
            }
        }
        return cheapest(points, told, allowed);
    }

    private PatchM cheapest(int[] points, int[] told, boolean[][] allowed) {
        int[] cost = COSTS[told.length];
        PatchM best = null;
        for (int f = 0; f < cost.length; f++) {
            for (int g = 0; g < (points.length == 2 ? cost.length : 1); g++) {
                int sum = cost[f] + (points.length == 2 ? cost[g] : 0);
                if (best != null && sum >= best.cost) continue;
                boolean fits = true;
                for (int p = 0; p < allowed.length && fits; p++) {
                    fits = allowed[p][(f >> p & 1) | (points.length == 2 ? (g >> p & 1) << 1 : 0)];
                }
                if (!fits) continue;
                best = new PatchM();
                best.cost = sum;
                best.functions = points.length == 2 ? new int[] {f, g} : new int[] {f};
            }
        }
        best.points = points;
        best.told = told;
        best.roots = new int[points.length];
        for (int k = 0; k < points.length; k++) best.roots[k] = tree(best, k, best.functions[k]);
        return best;
    }

    private int tree(PatchM patch, int point, int f) {
        int m = patch.told.length;
        int all = (1 << (1 << m)) - 1;
        if (f == 0) return 200;
        if (f == all) return 201;
        for (int j = 0; j < m; j++) if (f == wireFunction(m, j)) return 100 + j;
        int[] cost = COSTS[m];
        Node node = new Node();
        node.point = point;
        if (cost[all - f] == cost[f] - 1) {
            node.first = tree(patch, point, all - f);
            node.second = -2;
            patch.nodes.add(node);
            return patch.nodes.size() - 1;
        }
        for (int kind = 1; kind <= 5; kind++) {
            for (int g = 0; g <= all; g++) {
                for (int h = 0; h <= all; h++) {
                    if (cost[g] + cost[h] == cost[f] - 1 && over(m, kind, g, h) == f) {
                        node.kind = kind;
                        node.first = tree(patch, point, g);
                        node.second = tree(patch, point, h);
                        patch.nodes.add(node);
                        return patch.nodes.size() - 1;
                    }
                }
            }
        }
        throw new AssertionError("no tree");
    }

    public int patch(int a, int b, int u, int v, int w) {
        int[] points = pointsOf(a, b);
        int[] given = {u, v, w};
        int n = 3;
        while (n > 0 && given[n - 1] == -1) n--;
        int[] told = Arrays.copyOf(given, n);
        if (points == null) return NONE;
        for (int j = 0; j < n; j++) if (!old.wire(told[j]) || j > 0 && told[j] <= told[j - 1]) return NONE;
        for (int t : told) for (int p : points) if (old.hangs(t, p)) return RING;
        int[] found = new int[2];
        patch = findPatch(points, told, found);
        if (patch == null) {
            clash = found;
            return UNABLE;
        }
        return patch.cost;
    }

    public int clash(int what) { return clash == null || what < 0 || what > 1 ? NONE : clash[what]; }

    public int mark(int wire, int price) {
        if (!old.wire(wire) || price < -1 || price > 9) return NONE;
        if (price >= 0 && marks.size() == 10 && !marks.containsKey(wire)) return FULL;
        if (price < 0) marks.remove(wire); else marks.put(wire, price);
        return marks.size();
    }

    public int best(int a) {
        if (!old.isGate(a)) return NONE;
        List<Integer> usable = new ArrayList<>();
        for (int w : marks.keySet()) if (!old.hangs(w, a)) usable.add(w);
        PatchM best = null;
        int bestSum = 0;
        for (int set = 0; set < 1 << usable.size(); set++) {
            if (Integer.bitCount(set) > 3) continue;
            int[] told = new int[Integer.bitCount(set)];
            int sum = 0;
            for (int i = 0, j = 0; i < usable.size(); i++) {
                if ((set >> i & 1) == 1) {
                    told[j++] = usable.get(i);
                    sum += marks.get(usable.get(i));
                }
            }
            PatchM one = findPatch(new int[] {a}, told, new int[2]);
            if (one == null) continue;
            sum += 10 * one.cost;
            if (best == null || sum < bestSum || sum == bestSum && ahead(told, best.told)) {
                best = one;
                bestSum = sum;
            }
        }
        patch = best;
        return best == null ? UNABLE : bestSum;
    }

    private static boolean ahead(int[] a, int[] b) {
        if (a.length != b.length) return a.length < b.length;
        return Arrays.compare(a, b) < 0;
    }

    public int patched(int what) {
        if (patch == null) return NONE;
        switch (what) {
            case 0: return patch.nodes.size();
            case 1: return patch.points.length;
            case 2: return patch.told.length;
            case 3: return patch.placed ? 1 : 0;
            default: return NONE;
        }
    }

    public int function(int k) {
        return patch == null || k < 0 || k >= patch.functions.length ? NONE : patch.functions[k];
    }

    public int told(int j) { return patch == null || j < 0 || j >= patch.told.length ? NONE : patch.told[j]; }

    public int node(int i, int what) {
        if (patch == null || i < 0 || i >= patch.nodes.size() || what < 0 || what > 4) return NONE;
        Node n = patch.nodes.get(i);
        return new int[] {n.kind, n.first, n.second, n.point, n.spare}[what];
    }

    public int cost(int m, int function) {
        if (m < 0 || m > 3 || function < 0 || function >= COSTS[m].length) return NONE;
        return COSTS[m][function];
    }

    static boolean isPlace(int x, int y) { return x >= 0 && x <= 31 && y >= 0 && y <= 31; }

    public int site(int wire, int x, int y) {
        if (!old.wire(wire) || !isPlace(x, y)) return NONE;
        int[] was = old.places.set(wire, new int[] {x, y});
        touched(0);
        return 32 * was[1] + was[0];
    }

    public int spare(int kind, int x, int y) {
        if (kind < 0 || kind > 5 || !isPlace(x, y)) return NONE;
        if (spares.size() == 12) return FULL;
        SpareM s = new SpareM();
        s.kind = kind;
        s.x = x;
        s.y = y;
        spares.add(s);
        touched(0);
        return spares.size() - 1;
    }

    int distance(SpareM s, int wire) {
        return Math.abs(s.x - old.places.get(wire)[0]) + Math.abs(s.y - old.places.get(wire)[1]);
    }

    int length(Node n, SpareM s) {
        int sum = distance(s, patch.points[n.point]);
        for (int part : new int[] {n.first, n.second}) {
            if (part >= 100 && part < 200) sum += distance(s, patch.told[part - 100]);
        }
        return sum;
    }

    private int bestLength;
    private int[] bestSpares;

    public int place() {
        if (patch == null) return NONE;
        bestSpares = null;
        tryPlacing(new int[patch.nodes.size()], 0, 0, 0);
        if (bestSpares == null) return SPARE;
        for (int i = 0; i < bestSpares.length; i++) patch.nodes.get(i).spare = bestSpares[i];
        patch.placed = true;
        return bestLength;
    }

    private void tryPlacing(int[] chosen, int i, int taken, int sum) {
        if (i == chosen.length) {
            if (bestSpares == null || sum < bestLength) {
                bestLength = sum;
                bestSpares = chosen.clone();
            }
            return;
        }
        for (int s = 0; s < spares.size(); s++) {
            SpareM spare = spares.get(s);
            if ((taken >> s & 1) == 1 || spare.used || spare.kind != patch.nodes.get(i).kind) continue;
            chosen[i] = s;
            tryPlacing(chosen, i + 1, taken | 1 << s, sum + length(patch.nodes.get(i), spare));
        }
    }

    public int used(int spare) {
        return spare < 0 || spare >= spares.size() ? NONE : spares.get(spare).used ? 1 : 0;
    }

    public int delay(int kind, int ticks) {
        if (kind < 0 || kind > 8 || ticks < 0 || ticks > 9) return NONE;
        int was = delays[kind];
        delays[kind] = ticks;
        return was;
    }

    int arrives(NetM n, int wire) { return arrives(n, wire, new int[n.wires()]); }

    private int arrives(NetM n, int wire, int[] memo) {
        if (!n.isGate(wire)) return 0;
        if (memo[wire] > 0) return memo[wire] - 1;
        int latest = 0;
        for (int p : n.gateAt(wire).pins) latest = Math.max(latest, arrives(n, p, memo));
        memo[wire] = 1 + latest + delays[n.gateAt(wire).kind];
        return memo[wire] - 1;
    }

    public int arrive(int net, int wire) {
        NetM n = net(net);
        return n == null || !n.wire(wire) ? NONE : arrives(n, wire);
    }

    public int late(int tick) {
        if (tick < 0) return NONE;
        int number = 0;
        for (int w : old.observed()) if (arrives(old, w) > tick) number++;
        return number;
    }

    public int apply() {
        if (patch == null) return NONE;
        NetM after = old.twin();
        List<int[]> made = new ArrayList<>();
        List<Boolean> used = new ArrayList<>();
        for (SpareM s : spares) used.add(s.used);
        for (int k = 0; k < patch.points.length; k++) replace(after, patch.points[k], grow(after, k, used), made);
        if (after.gates.size() > 40) return FULL;
        Undo undo = new Undo();
        undo.net = old;
        for (SpareM s : spares) undo.used.add(s.used);
        undos.add(undo);
        if (undos.size() > 4) undos.remove(0);
        changes = made;
        tests = new ArrayList<>();
        for (int k = 0; k < cases(); k++) {
            if (!free[k] && !old.observedValues(k, null).equals(after.observedValues(k, null))) tests.add(k);
        }
        int added = after.gates.size() - old.gates.size();
        old = after;
        for (int s = 0; s < spares.size(); s++) spares.get(s).used = used.get(s);
        patch = null;
        return added;
    }

    private int grow(NetM net, int k, List<Boolean> used) {
        int root = patch.roots[k];
        if (root >= 100 && root < 200) return patch.told[root - 100];
        int[] home = net.places.get(patch.points[k]);
        if (root >= 200) {
            net.gates.add(new Gate(root == 200 ? 7 : 8));
            net.places.add(home.clone());
            return net.wires() - 1;
        }
        TreeMap<Integer, Integer> wires = new TreeMap<>();
        for (int i = 0; i < patch.nodes.size(); i++) {
            Node n = patch.nodes.get(i);
            if (n.point != k) continue;
            int[] parts = n.kind == 0 ? new int[] {n.first} : new int[] {n.first, n.second};
            for (int p = 0; p < parts.length; p++) {
                if (parts[p] >= 200) throw new AssertionError("a constant within a tree");
                parts[p] = parts[p] >= 100 ? patch.told[parts[p] - 100] : wires.get(parts[p]);
            }
            net.gates.add(new Gate(n.kind, parts));
            wires.put(i, net.wires() - 1);
            if (patch.placed) {
                net.places.add(new int[] {spares.get(n.spare).x, spares.get(n.spare).y});
                used.set(n.spare, true);
            } else {
                net.places.add(home.clone());
            }
        }
        return net.wires() - 1;
    }

    private static void replace(NetM net, int point, int wire, List<int[]> made) {
        for (int g = net.i + net.s; g < net.wires(); g++) {
            int[] pins = net.gateAt(g).pins;
            for (int p = 0; p < pins.length; p++) {
                if (pins[p] == point) {
                    pins[p] = wire;
                    made.add(new int[] {0, g, p});
                }
            }
        }
        for (int o = 0; o < net.o; o++) {
            if (net.outs[o] == point) {
                net.outs[o] = wire;
                made.add(new int[] {1, o, 0});
            }
        }
        for (int s = 0; s < net.s; s++) {
            if (net.nexts[s] == point) {
                net.nexts[s] = wire;
                made.add(new int[] {2, s, 0});
            }
        }
    }

    public int undo() {
        if (undos.isEmpty()) return NONE;
        Undo undo = undos.remove(undos.size() - 1);
        old = undo.net;
        for (int s = 0; s < spares.size(); s++) spares.get(s).used = undo.used.get(s);
        patch = null;
        marks.keySet().removeIf(w -> !old.wire(w));
        return undos.size();
    }

    public int change(int i, int what) {
        return i < 0 || i >= changes.size() || what < 0 || what > 2 ? NONE : changes.get(i)[what];
    }

    public int test(int i) { return i < 0 || i >= tests.size() ? NONE : tests.get(i); }

    public int idle(int net) {
        NetM n = net(net);
        if (n == null) return NONE;
        int idle = 0;
        for (int g = n.i + n.s; g < n.wires(); g++) {
            boolean needed = false;
            for (int w : n.observed()) needed |= n.hangs(w, g);
            if (!needed) idle++;
        }
        return idle;
    }

    public int tape(int d, int sort, int n) {
        if (!isTape(d) || sort < 1 || sort > 4 || n > 256) return NONE;
        if (n < 0) return refuse(SIZE);
        tapes[d] = new TapeM();
        tapes[d].sort = sort;
        tapes[d].row = new long[n];
        return n;
    }

    public int image(int d) {
        if (!isTape(d)) return NONE;
        tapes[d] = new TapeM();
        tapes[d].sort = 5;
        tapes[d].image = old.twin();
        return old.gates.size();
    }

    public int back(int d) {
        if (!isTape(d)) return NONE;
        if (tapes[d].sort == 0) return refuse(NOTHING);
        if (tapes[d].sort != 5) return refuse(CAST);
        NetM image = tapes[d].image;
        if (image.i != old.i || image.s != old.s || image.o != old.o) return UNABLE;
        old = image.twin();
        marks.keySet().removeIf(w -> !old.wire(w));
        touched(0);
        return old.gates.size();
    }

    public int toss(int d) {
        if (!isTape(d)) return NONE;
        if (tapes[d].sort == 0) return refuse(NOTHING);
        if (tapes[d].sort != 5) return refuse(CAST);
        int gates = tapes[d].image.gates.size();
        return gates == 0 ? refuse(THROWN) : gates;
    }

    public int clear(int d) {
        if (!isTape(d)) return NONE;
        int was = tapes[d].sort;
        tapes[d] = new TapeM();
        return was;
    }

    public int put(int d, int i, long v) {
        if (!isTape(d)) return NONE;
        if (tapes[d].sort == 0) return refuse(NOTHING);
        if (tapes[d].sort == 5) return refuse(CAST);
        if (i < 0 || i >= tapes[d].row.length) return refuse(PLACE);
        int bits = 4 << tapes[d].sort;
        tapes[d].row[i] = v << 64 - bits >> 64 - bits;
        return 1;
    }

    public long at(int d, int i) {
        if (!isTape(d)) throw new IllegalArgumentException();
        if (tapes[d].row == null || i < 0 || i >= tapes[d].row.length) throw new IllegalStateException();
        return tapes[d].row[i];
    }

    public int copy(int d, int i, int e, int j, int n) {
        if (!isTape(d) || !isTape(e)) return NONE;
        if (tapes[d].sort == 0 || tapes[e].sort == 0) return refuse(NOTHING);
        if (tapes[d].sort == 5 || tapes[e].sort == 5 || tapes[d].sort != tapes[e].sort) return refuse(CAST);
        if (n < 0 || i < 0 || j < 0) return refuse(PLACE);
        if ((long) i + n > tapes[d].row.length || (long) j + n > tapes[e].row.length) return refuse(PLACE);
        long[] before = tapes[d].row.clone();
        for (int k = 0; k < n; k++) tapes[e].row[j + k] = before[i + k];
        return n;
    }

    public int count(int what) {
        int freed = 0;
        for (boolean f : free) if (f) freed++;
        int[] all = {old.i, old.s, old.o, old.gates.size(), wish.gates.size(), freed, spares.size(),
            undos.size(), changes.size(), tests.size(), refusals};
        return what < 0 || what >= all.length ? NONE : all[what];
    }
}
