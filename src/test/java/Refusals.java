import java.util.ArrayList;
import java.util.List;
import java.util.function.Function;
import java.util.function.ToLongFunction;

/**
 * What a refused call leaves as it was, VII: all of it. A call is refused on one object and not made on its
 * twin; then both are read, each time by another probe, and must answer the same.
 */
final class Refusals {
    private static final int NONE = -1, RING = -2, FULL = -3, UNABLE = -4, SPARE = -5;
    private static final int NOTHING = -11, CAST = -12, PLACE = -13, SIZE = -14, THROWN = -15;
    private static final int NOT = 0, AND = 1, OR = 2, XOR = 3, NAND = 4, MUX = 6, ZERO = 7;
    private static final int LEAST = Integer.MIN_VALUE, MOST = Integer.MAX_VALUE;

    private final Rows r;
    private int scene;

    Refusals(Rows rows) { r = rows; }

    void all() {
        r.says("VII. What is refused changes nothing (but a CLASH is kept).");
        for (scene = RICH; scene <= CROWDED; scene++) {
            nets();
            patches();
            tapes();
        }
        rich();
        fresh();
        full();
        after();
        clashes();
        orderOfNets();
        orderOfPatches();
        orderOfTapes();
        nothingYet();
    }

    // ---- scenes ----

    private static final int RICH = 0, NEW = 1, CROWDED = 2, AFTER = 3;

    /** Some of everything, a new object, everything as full as it can be, and what is left behind begin(). */
    static GatePatch scene(int number) {
        GatePatch x = new GatePatch();
        if (number == RICH || number == AFTER) makeRich(x);
        if (number == CROWDED) makeFull(x);
        if (number == AFTER) makeAfter(x);
        return x;
    }

    private static void makeRich(GatePatch x) {
        x.begin(3, 1, 2);
        for (int net = 0; net < 2; net++) {
            x.gate(net, AND + net, 0, 1, -1);
            x.gate(net, XOR, 4, 2, -1);
            x.gate(net, MUX, 3, 4, 5);
            x.gate(net, NOT, 6, -1, -1);
            x.out(net, 0, 7);
            x.out(net, 1, 5);
            x.next(net, 0, 6);
        }
        x.gate(0, ZERO, -1, -1, -1);
        for (int w = 0; w < 9; w++) x.site(w, 3 * w, 20 - w);
        for (int s = 0; s < 5; s++) x.spare(s < 3 ? OR : NAND, 5 + s, s * s);
        x.delay(OR, 4);
        x.delay(NOT, 0);
        x.free(3);
        x.free(12);
        x.mark(0, 2);
        x.mark(1, 0);
        x.mark(7, 5);
        x.image(4);
        x.points(2);
        x.patch(4, -1, 0, -1, -1);
        x.patch(4, -1, 0, 1, -1);
        x.place();
        x.apply();
        x.mark(9, 1);
        x.rewire(1, 4, 0, 2);
        x.patch(9, -1, 1, 2, -1);
        x.apply();
        x.gate(1, NAND, 0, 1, -1);
        x.out(1, 0, 8);
        for (int d = 0; d < 4; d++) {
            x.tape(d, d + 1, 6);
            for (int i = 0; i < 6; i++) x.put(d, i, i * 77777777777L - 3);
        }
        x.clear(5);
        x.witness(3, 5, 7, -1);
        x.put(3, 1, 1);
        x.tape(2, 3, 5);
        x.toss(2);
        x.patch(7, -1, 0, 1, -1);
        x.place();
    }

    private static void makeFull(GatePatch x) {
        x.begin(6, 2, 4);
        x.gate(0, AND, 0, 1, -1);
        for (int g = 9; g < 48; g++) x.gate(0, 1 + g % 5, g - 1, g % 8, -1);
        for (int g = 8; g < 32; g++) x.gate(1, 1 + g % 5, g % 5, g % 8, -1);
        for (int o = 0; o < 4; o++) x.out(0, o, o == 0 ? 8 : 40 + o);
        for (int o = 0; o < 4; o++) x.out(1, o, o == 0 ? 9 : o);
        for (int s = 0; s < 12; s++) x.spare(s % 6, s, 31 - s);
        for (int w = 0; w < 10; w++) x.mark(w < 8 ? w : 12 + w, w);
        for (int d = 0; d < 6; d++) x.image(d);
        for (int d = 0; d < 4; d++) x.tape(d, 1 + d, 256);
        for (int o = 1; o < 4; o++) x.out(0, o, o);
        x.patch(8, -1, 0, 1, 4);
    }

    /** TAPES of a net of another shape; two POINTS are wanted; a CLASH; a PATCH for which there is no SPARE. */
    private static void makeAfter(GatePatch x) {
        x.begin(2, 1, 2);
        x.image(5);
        for (int net = 0; net < 2; net++) {
            x.gate(net, net == 0 ? AND : OR, 0, 1, -1);
            x.gate(net, net == 0 ? AND : XOR, 0, 2, -1);
            x.out(net, 0, 3);
            x.out(net, 1, 4);
        }
        x.spare(OR, 4, 4);
        x.mark(0, 3);
        x.mark(1, 3);
        x.points(2);
        x.tape(0, 1, 1);
        x.patch(3, -1, 0, -1, -1);
        x.patch(3, 4, 0, 1, 2);
    }

    // ---- probes ----

    private static final List<Function<GatePatch, String>> PROBES = List.of(
        Refusals::read, Refusals::readTapes, Refusals::undoAll, Refusals::wiring, Refusals::applyAll,
        Refusals::marks, Refusals::images, Refusals::morePatches);

    private static String read(GatePatch x) {
        StringBuilder s = new StringBuilder();
        counts(s, x);
        for (int net = 0; net < 2; net++) {
            int wires = wires(x, net);
            for (int w = 0; w < wires; w++) s.append(x.row(net, w, 0)).append(' ').append(x.arrive(net, w)).append(' ');
            s.append(x.idle(net)).append(' ');
        }
        for (int w = 4; w < 10; w++) for (int o = 0; o < 10; o++) s.append(x.hangs(0, w, o));
        for (int tick = 0; tick < 8; tick++) s.append(' ').append(x.late(tick));
        s.append(' ').append(x.differ());
        for (int k = 0; k < 3; k++) s.append(" p").append(x.point(k));
        for (int k = 0; k < 2; k++) s.append(" c").append(x.clash(k));
        patch(s, x);
        changes(s, x);
        for (int d = 0; d < 12; d++) s.append(" u").append(x.used(d));
        return s.toString();
    }

    private static void counts(StringBuilder s, GatePatch x) {
        for (int what = 0; what < 10; what++) s.append(x.count(what)).append(' ');
    }

    private static int wires(GatePatch x, int net) { return x.count(0) + x.count(1) + x.count(3 + net); }

    private static void patch(StringBuilder s, GatePatch x) {
        for (int what = 0; what < 4; what++) s.append(" p").append(x.patched(what));
        for (int k = 0; k < 2; k++) s.append(" f").append(x.function(k));
        for (int j = 0; j < 3; j++) s.append(" t").append(x.told(j));
        for (int i = 0; i < 4; i++) for (int what = 0; what < 5; what++) s.append(" n").append(x.node(i, what));
    }

    private static void changes(StringBuilder s, GatePatch x) {
        for (int i = 0; i < 5; i++) for (int what = 0; what < 3; what++) s.append(" c").append(x.change(i, what));
        for (int i = 0; i < 9; i++) s.append(" t").append(x.test(i));
    }

    private static String readTapes(GatePatch x) {
        StringBuilder s = new StringBuilder();
        for (int d = 0; d < 6; d++) {
            for (int i : new int[] {0, 1, 2, 3, 4, 5, 6, 15, 16, 255, 256}) {
                int thrown = Nets.atThrows(x, d, i);
                s.append(' ').append(thrown > 0 ? "x" + thrown : String.valueOf(x.at(d, i)));
            }
            s.append(" s").append(x.toss(d)).append(x.clear(d));
        }
        return s.toString();
    }

    private static String undoAll(GatePatch x) {
        StringBuilder s = new StringBuilder();
        for (int i = 0; i < 5; i++) {
            s.append(" undo").append(x.undo());
            counts(s, x);
            int wires = Math.min(14, wires(x, 0));
            for (int w = 0; w < wires; w++) s.append(' ').append(x.row(0, w, 0));
            for (int d = 0; d < 12; d++) s.append(" u").append(x.used(d));
        }
        sites(s, x, 48);
        return s.toString();
    }

    /** The FUNCTIONS and places of the first WIRES; the places are 0, 0 then. */
    private static void sites(StringBuilder s, GatePatch x, int most) {
        int wires = Math.min(most, wires(x, 0));
        for (int w = 0; w < wires; w++) s.append(' ').append(x.row(0, w, 0)).append(' ').append(x.site(w, 0, 0));
    }

    private static String wiring(GatePatch x) {
        StringBuilder s = new StringBuilder();
        for (int net = 0; net < 2; net++) {
            for (int o = 0; o < 5; o++) s.append(" o").append(x.out(net, o, 0));
            for (int k = 0; k < 3; k++) s.append(" n").append(x.next(net, k, 0));
            int wires = Math.min(34, wires(x, net));
            for (int g = 4; g < wires; g++) for (int p = 0; p < 3; p++) s.append(" r").append(x.rewire(net, g, p, 0));
        }
        sites(s, x, 48);
        for (int k = 0; k < 9; k++) s.append(" d").append(x.delay(k, 3));
        return s.toString();
    }

    private static String applyAll(GatePatch x) {
        StringBuilder s = new StringBuilder();
        s.append(x.place());
        patch(s, x);
        s.append(" apply").append(x.apply());
        counts(s, x);
        changes(s, x);
        for (int d = 0; d < 12; d++) s.append(" u").append(x.used(d));
        sites(s, x, 14);
        for (int n = 0; n < 13; n++) s.append(" s").append(x.spare(n % 6, 0, 0));
        return s.toString();
    }

    private static String marks(GatePatch x) {
        StringBuilder s = new StringBuilder();
        for (int g = 3; g < 12; g++) {
            s.append(" best").append(x.best(g));
            patch(s, x);
        }
        int wires = wires(x, 0);
        for (int w = 0; w < wires; w++) s.append(" m").append(x.mark(w, -1));
        return s.toString();
    }

    private static String images(GatePatch x) {
        StringBuilder s = new StringBuilder();
        for (int d = 0; d < 6; d++) {
            s.append(" back").append(x.back(d));
            counts(s, x);
            sites(s, x, 12);
        }
        return s.toString();
    }

    /** By PATCHES of each KIND the SPARES tell their KINDS and places. */
    private static String morePatches(GatePatch x) {
        StringBuilder s = new StringBuilder();
        int sources = x.count(0) + x.count(1);
        for (int kind = NOT; kind <= 5; kind++) {
            x.image(0);
            x.rewire(1, sources, 0, 0);
            int out = x.out(1, 0, 0);
            for (int o = 0; o < x.count(2); o++) x.out(0, o, sources);
            s.append(' ').append(out).append(' ').append(x.patch(sources, -1, 0, 1, 2));
            s.append(' ').append(x.place()).append(' ').append(x.node(0, 4));
            x.back(0);
        }
        return s.toString();
    }

    // ---- refused calls ----

    /** On twins of the scene: the call is refused with this answer, and all is as it was. */
    private void refused(long due, ToLongFunction<GatePatch> call) {
        for (Function<GatePatch, String> probe : PROBES) {
            GatePatch x = scene(scene);
            GatePatch y = scene(scene);
            int host = x.count(10);
            r.due(due, call.applyAsLong(x));
            r.due(due >= THROWN && due <= NOTHING ? host + 1 : host, x.count(10));
            r.same(probe.apply(y), probe.apply(x));
        }
    }

    private void none(ToLongFunction<GatePatch> call) { refused(NONE, call); }

    private void nets() {
        none(x -> x.begin(0, 0, 1));
        none(x -> x.begin(7, 2, 1));
        none(x -> x.begin(-1, 2, 1));
        none(x -> x.begin(3, 3, 1));
        none(x -> x.begin(3, -1, 1));
        none(x -> x.begin(3, 1, 0));
        none(x -> x.begin(3, 1, 5));
        for (int net = 0; net < 2; net++) {
            int n = net;
            none(x -> x.gate(n, 9, -1, -1, -1));
            none(x -> x.gate(n, -1, 0, 0, 0));
            none(x -> x.gate(n, AND, 0, 99, -1));
            none(x -> x.gate(n, AND, 0, -1, -1));
            none(x -> x.gate(n, AND, -1, 0, -1));
            none(x -> x.gate(n, NOT, 0, 0, -1));
            none(x -> x.gate(n, MUX, 0, 0, -1));
            none(x -> x.gate(n, ZERO, -1, -1, 0));
            none(x -> x.rewire(n, 2, 0, 1));
            none(x -> x.rewire(n, 99, 0, 1));
            none(x -> x.rewire(n, x.count(0) + x.count(1), 2, 1));
            none(x -> x.rewire(n, x.count(0) + x.count(1), -1, 1));
            none(x -> x.rewire(n, x.count(0) + x.count(1), 0, 99));
            none(x -> x.out(n, x.count(2), 0));
            none(x -> x.out(n, -1, 0));
            none(x -> x.out(n, 0, wires(x, n)));
            none(x -> x.out(n, 0, -1));
            none(x -> x.next(n, x.count(1), 0));
            none(x -> x.next(n, -1, 0));
            none(x -> x.next(n, 0, wires(x, n)));
            none(x -> x.value(n, wires(x, n), 0));
            none(x -> x.value(n, 0, -1));
            none(x -> x.hangs(n, 0, wires(x, n)));
            refused(1, x -> Nets.rowThrows(x, n, 0, 4));
            refused(1, x -> Nets.rowThrows(x, n, wires(x, n), 0));
            none(x -> x.arrive(n, -1));
        }
        none(x -> x.gate(2, NOT, 0, -1, -1));
        none(x -> x.rewire(2, 4, 0, 0));
        none(x -> x.out(-1, 0, 0));
        none(x -> x.next(2, 0, 0));
        none(x -> x.idle(2));
        none(x -> x.free(-1));
        none(x -> x.free(1 << x.count(0) + x.count(1)));
        none(x -> x.site(wires(x, 0), 0, 0));
        none(x -> x.site(-1, 0, 0));
        none(x -> x.site(0, 32, 0));
        none(x -> x.site(0, 0, 32));
        none(x -> x.spare(6, 0, 0));
        none(x -> x.spare(0, 32, 0));
        none(x -> x.spare(0, 0, -1));
        none(x -> x.delay(9, 1));
        none(x -> x.delay(OR, 10));
        none(x -> x.delay(OR, -1));
        none(x -> x.used(12));
        none(x -> x.late(-1));
        none(x -> x.cost(4, 0));
        none(x -> x.cost(3, 256));
        none(x -> x.count(11));
    }

    private void patches() {
        none(x -> x.enough(0, -1, -1));
        none(x -> x.enough(-1, -1, -1));
        none(x -> x.points(0));
        none(x -> x.points(4));
        none(x -> x.point(3));
        none(x -> x.mend(99, -1, -1, 0));
        none(x -> x.mend(x.count(0) + x.count(1), -1, -1, -1));
        none(x -> x.witness(6, x.count(0) + x.count(1), -1, -1));
        none(x -> x.witness(0, 0, -1, -1));
        none(x -> x.witness(3, 99, -1, -1));
        none(x -> x.judge(6, x.count(0) + x.count(1), -1, -1));
        none(x -> x.judge(3, 0, -1, -1));
        none(x -> x.patch(0, -1, 0, 1, -1));
        none(x -> x.patch(99, -1, 0, 1, -1));
        none(x -> x.patch(-1, -1, -1, -1, -1));
        none(x -> x.patch(x.count(0) + x.count(1), -1, 1, 0, -1));
        none(x -> x.patch(x.count(0) + x.count(1), -1, -1, 0, -1));
        none(x -> x.patch(x.count(0) + x.count(1), -1, 0, 1, 99));
        none(x -> x.clash(2));
        none(x -> x.mark(wires(x, 0), 0));
        none(x -> x.mark(-1, 0));
        none(x -> x.mark(0, 10));
        none(x -> x.mark(0, -2));
        none(x -> x.best(0));
        none(x -> x.best(99));
        none(x -> x.patched(4));
        none(x -> x.function(2));
        none(x -> x.told(3));
        none(x -> x.node(8, 0));
        none(x -> x.node(0, 5));
        none(x -> x.change(0, 3));
        none(x -> x.change(-1, 0));
        none(x -> x.test(-1));
        none(x -> x.test(256));
    }

    private void tapes() {
        none(x -> x.tape(6, 1, 1));
        none(x -> x.tape(0, 0, 1));
        none(x -> x.tape(0, 5, 1));
        none(x -> x.tape(1, 1, 257));
        for (int d = 0; d < 6; d++) {
            int t = d;
            refused(SIZE, x -> x.tape(t, 2, -1));
            refused(SIZE, x -> x.tape(t, 4, LEAST));
        }
        none(x -> x.image(6));
        none(x -> x.back(-1));
        none(x -> x.toss(6));
        none(x -> x.clear(6));
        none(x -> x.put(6, 0, 1));
        none(x -> x.copy(6, 0, 0, 0, 1));
        none(x -> x.copy(0, 0, -1, 0, 1));
        refused(1, x -> Nets.atThrows(x, 6, 0));
        refused(2, x -> Nets.atThrows(x, 0, 256));
        if (scene == NEW) return;
        refused(PLACE, x -> x.put(0, 256, 1));
        refused(PLACE, x -> x.put(3, -1, 1));
        refused(PLACE, x -> x.copy(0, 0, 0, 1, 256));
        refused(PLACE, x -> x.copy(1, -1, 1, 0, 1));
        refused(PLACE, x -> x.copy(1, 0, 1, -1, 1));
        refused(PLACE, x -> x.copy(1, 0, 1, 0, -1));
        refused(PLACE, x -> x.copy(0, MOST, 0, MOST, MOST));
        refused(CAST, x -> x.copy(0, 0, 1, 0, 1));
        refused(CAST, x -> x.copy(0, 0, 4, 0, 1));
        refused(CAST, x -> x.copy(4, 0, 4, 0, 0));
        refused(CAST, x -> x.put(4, 0, 1));
        refused(CAST, x -> x.back(2));
        refused(CAST, x -> x.toss(2));
    }

    private void rich() {
        scene = RICH;
        refused(RING, x -> x.rewire(0, 4, 0, 4));
        refused(RING, x -> x.rewire(0, 5, 0, 7));
        refused(RING, x -> x.rewire(1, 4, 1, 7));
        refused(RING, x -> x.patch(7, -1, 0, 7, -1));
        refused(RING, x -> x.patch(6, 8, 1, 7, -1));
        refused(UNABLE, x -> x.mend(8, -1, -1, x.differ()));
        for (int d = 0; d < 6; d++) {
            int t = d;
            refused(UNABLE, x -> x.witness(t, 8, -1, -1));
        }
        refused(NOTHING, x -> x.judge(5, 4, -1, -1));
        refused(NOTHING, x -> x.put(5, 0, 1));
        refused(NOTHING, x -> x.back(5));
        refused(NOTHING, x -> x.toss(5));
        refused(NOTHING, x -> x.copy(5, 0, 0, 0, 1));
        refused(NOTHING, x -> x.copy(0, 0, 5, 0, 1));
        refused(CAST, x -> x.judge(1, 4, -1, -1));
        refused(CAST, x -> x.judge(4, 4, -1, -1));
    }

    private void fresh() {
        scene = NEW;
        none(x -> x.undo());
        none(x -> x.place());
        none(x -> x.apply());
        none(x -> x.used(0));
        for (int d = 0; d < 6; d++) {
            int t = d;
            refused(NOTHING, x -> x.put(t, 0, 0));
            refused(NOTHING, x -> x.back(t));
            refused(NOTHING, x -> x.toss(t));
            refused(NOTHING, x -> x.copy(t, 0, t, 0, 0));
        }
    }

    private void full() {
        scene = CROWDED;
        refused(FULL, x -> x.gate(0, NOT, 0, -1, -1));
        refused(FULL, x -> x.gate(1, ZERO, -1, -1, -1));
        refused(FULL, x -> x.mark(12, 0));
        refused(FULL, x -> x.mark(47, 9));
        refused(FULL, x -> x.spare(0, 0, 0));
        refused(FULL, x -> x.apply());
        none(x -> x.undo());
    }

    private void after() {
        scene = AFTER;
        refused(UNABLE, x -> x.back(4));
        refused(UNABLE, x -> x.points(1));
        refused(UNABLE, x -> x.mend(3, -1, -1, 1));
        refused(UNABLE, x -> x.witness(0, 4, -1, -1));
        refused(SPARE, x -> x.place());
        refused(THROWN, x -> x.toss(5));
        refused(PLACE, x -> x.judge(0, 3, 4, -1));
        none(x -> x.undo());
        none(x -> x.used(1));
    }

    /** A CLASH is kept, and there is no PATCH any more; nothing else is other than on a twin that lost its PATCH. */
    private void clashes() {
        for (int way = 0; way < 2; way++) {
            r.says(way == 0 ? "VII. What is refused changes nothing (but a CLASH is kept)." : "(the last CLASH stays, no PATCH is kept then)");
            for (Function<GatePatch, String> probe : PROBES) {
                GatePatch x = scene(AFTER);
                GatePatch y = scene(AFTER);
                r.due(3, x.patched(2));
                r.due(UNABLE, way == 0 ? x.patch(3, -1, 0, -1, -1) : x.best(3));
                r.due(1, y.free(0));
                r.due(0, y.free(0));
                r.same(probe.apply(y), probe.apply(x));
            }
            GatePatch x = scene(AFTER);
            // POINT 3 alone can't MEND CASE 1; by WIRE 0 that is the first CASE of its PATTERN, by 1 and 2 CASE 0 is
            r.due(1, x.clash(0));
            r.due(1, x.clash(1));
            r.due(UNABLE, way == 0 ? x.patch(3, -1, 1, 2, -1) : x.best(4));
            r.due(way == 0 ? 0 : 1, x.clash(0));
            r.due(1, x.clash(1));
            r.due(NONE, x.patched(0));
            r.due(NONE, x.apply());
        }
    }

    // ---- the order of refusals ----

    private void orderOfNets() {
        r.says("Of several refusals the one that is named first in a method's words is answered.");
        GatePatch x = scene(CROWDED);
        r.due(FULL, x.gate(0, NOT, 0, -1, -1));
        r.due(NONE, x.gate(0, NOT, 48, -1, -1));
        r.due(NONE, x.gate(0, NOT, 0, 0, -1));
        r.due(NONE, x.gate(0, 9, -1, -1, -1));
        r.due(NONE, x.gate(1, AND, 0, -1, -1));
        r.due(NONE, x.gate(1, AND, 0, 32, -1));
        r.due(NONE, x.mark(48, 0));
        r.due(NONE, x.mark(12, 10));
        r.due(NONE, x.mark(12, -2));
        r.due(10, x.mark(12, -1));
        r.due(NONE, x.spare(6, 0, 0));
        r.due(NONE, x.spare(0, 32, 0));
        r.due(NONE, x.spare(0, 0, -1));
        r.due(FULL, x.apply());
        // a full OLD, but no PATCH any more
        r.due(8, x.out(0, 0, 47));
        r.due(NONE, x.apply());
        x = scene(RICH);
        r.due(RING, x.rewire(0, 5, 0, 7));
        r.due(NONE, x.rewire(0, 5, 2, 7));
        r.due(NONE, x.rewire(0, 5, -1, 5));
        r.due(NONE, x.rewire(0, 3, 0, 4));
        r.due(NONE, x.rewire(0, 4, 0, wires(x, 0)));
        x = scene(AFTER);
        for (int n : new int[] {LEAST, -1, 0, 4, MOST}) r.due(NONE, x.points(n));
        r.due(UNABLE, x.points(1));
        x.begin(2, 1, 2);
        for (int n : new int[] {LEAST, -1, 0, 4, MOST}) r.due(NONE, x.points(n));
        r.due(0, x.points(1));
    }

    private void orderOfPatches() {
        GatePatch x = scene(AFTER);
        r.due(UNABLE, x.mend(3, -1, -1, 1));
        r.due(NONE, x.mend(3, -1, -1, 8));
        r.due(NONE, x.mend(3, 3, -1, 1));
        r.due(UNABLE, x.witness(0, 3, -1, -1));
        r.due(NONE, x.witness(6, 3, -1, -1));
        r.due(NONE, x.witness(0, 4, 3, -1));
        r.due(RING, x.patch(3, -1, 3, -1, -1));
        r.due(NONE, x.patch(2, -1, 3, -1, -1));
        r.due(NONE, x.patch(3, 3, 3, -1, -1));
        r.due(NONE, x.patch(3, -1, 3, 0, -1));
        r.due(NONE, x.patch(3, -1, 3, 5, -1));
        r.due(NONE, x.patch(3, -1, -1, 3, -1));
        r.due(NONE, x.patch(3, -1, 0, -1, -2));
        r.due(3, x.patched(2));
        r.due(UNABLE, x.best(3));
        r.due(NONE, x.best(2));
        r.due(NONE, x.best(5));
        r.due(NONE, x.place());
        r.due(NONE, x.apply());
        r.due(NONE, x.patched(9));
        // a row that is too short, and wrong ahead of that: the CASE; of shorts too: CAST
        x.tape(0, 1, 1);
        r.due(PLACE, x.judge(0, 3, 4, -1));
        x.put(0, 0, 1);
        r.due(0, x.judge(0, 3, 4, -1));
        x.tape(1, 2, 0);
        r.due(CAST, x.judge(1, 3, 4, -1));
        x.clear(2);
        r.due(NOTHING, x.judge(2, 3, 4, -1));
        r.due(NONE, x.judge(2, 4, 3, -1));
        r.due(NONE, x.judge(1, 2, -1, -1));
        r.due(NONE, x.judge(6, 3, 4, -1));
        r.due(NONE, x.judge(6, 2, -1, -1));
    }

    private void orderOfTapes() {
        // 0 to 3 are rows of the four sorts, 4 is an IMAGE of another shape, 5 holds nothing
        GatePatch x = scene(RICH);
        x.begin(2, 0, 1);
        r.due(UNABLE, x.back(4));
        r.due(NONE, x.tape(6, 1, -1));
        r.due(NONE, x.tape(-1, 0, 257));
        r.due(NONE, x.tape(0, 0, -1));
        r.due(NONE, x.tape(0, 5, LEAST));
        r.due(NONE, x.tape(0, 1, MOST));
        r.due(SIZE, x.tape(0, 1, LEAST));
        r.due(NOTHING, x.put(5, -1, 0));
        r.due(CAST, x.put(4, -1, 0));
        r.due(NONE, x.put(6, -1, 0));
        r.due(1, Nets.atThrows(x, -1, -1));
        r.due(2, Nets.atThrows(x, 5, -1));
        r.due(2, Nets.atThrows(x, 4, -1));
        r.due(NONE, x.copy(5, 0, 6, 0, -1));
        r.due(NONE, x.copy(6, 0, 4, 0, -1));
        r.due(NOTHING, x.copy(5, 0, 4, 0, -1));
        r.due(NOTHING, x.copy(4, 0, 5, 0, -1));
        r.due(NOTHING, x.copy(0, -1, 5, -1, -1));
        r.due(NOTHING, x.copy(5, -1, 5, -1, -1));
        r.due(CAST, x.copy(0, 0, 1, 0, -1));
        r.due(CAST, x.copy(2, 99, 3, 0, 1));
        r.due(CAST, x.copy(4, -1, 4, 0, 0));
        r.due(CAST, x.copy(4, 0, 0, 99, 0));
        r.due(PLACE, x.copy(0, 0, 0, 0, -1));
        r.due(0, x.copy(0, 6, 0, 6, 0));
    }

    private void nothingYet() {
        r.says("NONE (-1): there is no such thing, or a number is not as said.");
        GatePatch x = new GatePatch();
        for (int again = 0; again < 2; again++) {
            for (int k = 0; k < 3; k++) {
                r.due(NONE, x.point(k));
                r.due(NONE, x.clash(k));
                r.due(NONE, x.patched(k));
                r.due(NONE, x.function(k));
                r.due(NONE, x.told(k));
                r.due(NONE, x.node(0, k));
                r.due(NONE, x.change(0, k));
                r.due(NONE, x.test(k));
                r.due(NONE, x.used(k));
                r.due(NONE, x.enough(k, -1, -1));
                r.due(NONE, x.best(k));
                r.due(NONE, x.rewire(0, k, 0, 0));
            }
            r.due(NONE, x.place());
            r.due(NONE, x.apply());
            r.due(NONE, x.undo());
            // all of this was there, and begin() takes it away
            x = scene(RICH);
            x.begin(3, 0, 1);
        }
    }
}
