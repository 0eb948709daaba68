/** The sentences of the promises, 1 to 47. Answers were worked out by hand. */
final class Calls {
    private static final int NONE = -1, RING = -2, FULL = -3, UNABLE = -4, SPARE = -5, SAME = 1000;
    private static final int NOTHING = -11, CAST = -12, PLACE = -13, SIZE = -14, THROWN = -15;
    private static final int NOT = 0, AND = 1, OR = 2, XOR = 3, NAND = 4, NOR = 5, MUX = 6, ZERO = 7, ONE = 8;
    private static final int LEAST = Integer.MIN_VALUE, MOST = Integer.MAX_VALUE;
    private static final int[] WILD = {LEAST, LEAST + 1, -2, -1, MOST - 1, MOST};

    private final Rows r;

    Calls(Rows rows) { r = rows; }

    void all() {
        made(); begin(); beginTapes(); gate(); rewire(); out(); next(); free(); value(); row(); hangs();
        differ(); enough(); points(); pointsOrder(); pointsElsewhere(); pointsByEnough(); point(); mend(); witness(); judge();
        patch(); clash(); mark(); marksStay(); best(); bestOrder(); bestMany(); patched(); function(); told(); node(); cost();
        site(); spare(); place(); used(); delay(); arrive(); late();
        apply(); applyFull(); undo(); undoNone(); change(); test(); idle();
        tape(); image(); back(); toss(); clear(); put(); at(); copy(); count();
    }

    // ---- 1 to 10 ----

    private void made() {
        r.says("As told in I to VI.");
        GatePatch x = new GatePatch();
        int[] due = {3, 0, 1, 0, 0, 0, 0, 0, 0, 0, 0};
        for (int what = 0; what < due.length; what++) r.due(due[what], x.count(what));
        for (int net = 0; net < 2; net++) {
            r.due(0, x.idle(net));
            for (int w = 0; w < 3; w++) {
                r.due(0, x.arrive(net, w));
                r.due(w == 0 ? 0xAA : w == 1 ? 0xCC : 0xF0, x.row(net, w, 0));
            }
            r.due(0, x.out(net, 0, 2));
        }
        r.due(SAME, x.differ());
        r.due(0, x.points(3));
        for (int kind = 0; kind < 9; kind++) r.due(1, x.delay(kind, 1));
        for (int w = 0; w < 3; w++) r.due(0, x.site(w, 0, 0));
        for (int w = 0; w < 3; w++) r.due(0, x.mark(w, -1));
        for (int d = 0; d < 6; d++) r.due(0, x.clear(d));
        // two objects have nothing in common
        GatePatch y = new GatePatch();
        x.gate(0, NOT, 0, -1, -1);
        x.tape(0, 1, 1);
        x.free(0);
        r.due(0, y.count(3));
        r.due(0, y.count(5));
        r.due(0, y.clear(0));
    }

    private void begin() {
        r.says("Both NETS are empty, with these inputs, stores and outputs; nothing is FREE, there are no SPARES, DELAYS are 1, nothing can be undone (TAPES stay): the number of CASES.");
        int[][] shapes = {{3, 1, 2}, {8, 0, 1}, {0, 1, 1}, {1, 0, 4}, {6, 2, 4}, {0, 2, 3}};
        for (int[] shape : shapes) {
            GatePatch x = Refusals.scene(0);
            r.due(2, x.count(7));
            r.due(1 << shape[0] + shape[1], x.begin(shape[0], shape[1], shape[2]));
            for (int what = 0; what < 11; what++) r.due(what < 3 ? shape[what] : 0, x.count(what));
            for (int net = 0; net < 2; net++) {
                r.due(NONE, x.value(net, shape[0] + shape[1], 0));
                for (int o = 0; o < shape[2]; o++) r.due(0, x.out(net, o, 0));
                r.due(NONE, x.out(net, shape[2], 0));
                for (int s = 0; s < shape[1]; s++) r.due(0, x.next(net, s, 0));
                r.due(NONE, x.next(net, shape[1], 0));
            }
            r.due(SAME, x.differ());
            r.due(NONE, x.undo());
            r.due(NONE, x.used(0));
            r.due(NONE, x.patched(0));
            for (int kind = 0; kind < 9; kind++) r.due(1, x.delay(kind, 2));
            for (int w = 0; w < shape[0] + shape[1]; w++) r.due(0, x.site(w, 3, 3));
            for (int w = 0; w < shape[0] + shape[1]; w++) r.due(0, x.mark(w, -1));
            r.due(shape[0] + shape[1], x.gate(0, ZERO, -1, -1, -1));
            r.due(0, x.site(shape[0] + shape[1], 0, 0));
            r.due(0, x.spare(OR, 0, 0));
            r.due(0, x.used(0));
            r.due(NONE, x.point(0));
            r.due(NONE, x.clash(0));
            r.due(NONE, x.change(0, 0));
            r.due(NONE, x.test(0));
        }
        r.says("NONE: not as in I.");
        GatePatch x = new GatePatch();
        for (int wild : WILD) {
            r.due(NONE, x.begin(wild, 0, 1));
            r.due(NONE, x.begin(wild, 1, 1));
            r.due(NONE, x.begin(1, wild, 1));
            r.due(NONE, x.begin(1, 0, wild));
            for (int other : WILD) r.due(NONE, x.begin(wild, other, 1));
        }
        r.due(3, x.count(0));
    }

    private void beginTapes() {
        r.says("Both NETS are empty, with these inputs, stores and outputs; nothing is FREE, there are no SPARES, DELAYS are 1, nothing can be undone (TAPES stay): the number of CASES.");
        GatePatch x = new GatePatch();
        x.gate(0, AND, 1, 2, -1);
        x.out(0, 0, 3);
        for (int d = 1; d < 5; d++) {
            x.tape(d, d, 2);
            x.put(d, 1, 100 + d);
        }
        x.image(0);
        x.begin(8, 0, 4);
        for (int d = 1; d < 5; d++) r.due(100 + d, x.at(d, 1));
        r.due(1, x.toss(0));
        r.due(UNABLE, x.back(0));
        x.begin(3, 0, 1);
        r.due(1, x.back(0));
        r.due(3, x.out(0, 0, 3));
        r.due(0xC0, x.row(0, 3, 0));
        for (int d = 0; d < 6; d++) r.due(d == 0 ? 5 : d == 5 ? 0 : d, x.clear(d));
    }

    private void gate() {
        r.says("A GATE is made: its number.");
        GatePatch x = new GatePatch();
        r.due(3, x.gate(0, AND, 0, 1, -1));
        r.due(3, x.gate(1, OR, 0, 1, -1));
        r.due(4, x.gate(0, NOT, 3, -1, -1));
        r.due(2, x.count(3));
        r.due(1, x.count(4));
        r.due(2, x.idle(0));
        r.due(0, x.site(4, 1, 1));
        r.says("NONE: no such NET, KIND; one of its PINS is no WIRE of the NET, or one that the KIND doesn't have isn't -1; FULL.");
        for (int wild : WILD) {
            r.due(NONE, x.gate(wild, NOT, 0, -1, -1));
            r.due(NONE, x.gate(0, wild, 0, -1, -1));
            r.due(NONE, x.gate(0, wild, -1, -1, -1));
            r.due(NONE, x.gate(0, NOT, wild, -1, -1));
            r.due(NONE, x.gate(0, AND, wild, 0, -1));
            r.due(NONE, x.gate(0, AND, 0, wild, -1));
            r.due(NONE, x.gate(0, MUX, 0, 0, wild));
            if (wild != -1) r.due(NONE, x.gate(0, ZERO, wild, -1, -1));
            if (wild != -1) r.due(NONE, x.gate(0, NOT, 0, wild, -1));
            if (wild != -1) r.due(NONE, x.gate(0, XOR, 0, 0, wild));
        }
        // a GATE can't have itself as a PIN, nor a WIRE of the other net alone
        r.due(NONE, x.gate(0, NOT, 5, -1, -1));
        r.due(NONE, x.gate(1, NOT, 4, -1, -1));
        r.due(2, x.count(3));
        r.due(1, x.count(4));
        for (int net = 0; net < 2; net++) {
            int room = net == 0 ? 40 : 24;
            for (int g = x.count(3 + net); g < room; g++) r.due(3 + g, x.gate(net, ONE, -1, -1, -1));
            r.due(FULL, x.gate(net, ONE, -1, -1, -1));
            r.due(room, x.count(3 + net));
        }
    }

    private void rewire() {
        r.says("A PIN of a GATE becomes another WIRE: the one it was.");
        GatePatch x = new GatePatch();
        x.gate(0, MUX, 0, 1, 2);
        x.gate(0, NOT, 3, -1, -1);
        r.due(0, x.rewire(0, 3, 0, 2));
        r.due(2, x.rewire(0, 3, 2, 1));
        r.due(1, x.rewire(0, 3, 1, 0));
        // MUX(x2, x0, x1)
        r.due(0xAC, x.row(0, 3, 0));
        r.due(0x53, x.row(0, 4, 0));
        r.due(3, x.rewire(0, 4, 0, 3));
        r.says("NONE: no such NET, GATE, PIN, WIRE; RING: the WIRE HANGS on the GATE.");
        for (int wild : WILD) {
            r.due(NONE, x.rewire(wild, 3, 0, 0));
            r.due(NONE, x.rewire(0, wild, 0, 0));
            r.due(NONE, x.rewire(0, 3, wild, 0));
            r.due(NONE, x.rewire(0, 3, 0, wild));
        }
        r.due(NONE, x.rewire(0, 2, 0, 0));
        r.due(NONE, x.rewire(0, 5, 0, 0));
        r.due(NONE, x.rewire(0, 3, 3, 0));
        r.due(NONE, x.rewire(0, 3, 0, 5));
        r.due(NONE, x.rewire(1, 3, 0, 0));
        for (int pin = 0; pin < 3; pin++) {
            r.due(RING, x.rewire(0, 3, pin, 3));
            r.due(RING, x.rewire(0, 3, pin, 4));
        }
        r.due(RING, x.rewire(0, 4, 0, 4));
        r.due(0xAC, x.row(0, 3, 0));
    }

    private void out() {
        r.says("An output becomes a WIRE: the one it was.");
        GatePatch x = new GatePatch();
        x.begin(2, 1, 4);
        x.gate(1, NOT, 0, -1, -1);
        for (int o = 0; o < 4; o++) {
            r.due(0, x.out(1, o, 3 - o));
            r.due(3 - o, x.out(1, o, o % 3));
            r.due(o % 3, x.out(1, o, o % 3));
            r.due(0, x.out(0, o, 0));
        }
        r.says("NONE: no such NET, output, WIRE.");
        for (int wild : WILD) {
            r.due(NONE, x.out(wild, 0, 0));
            r.due(NONE, x.out(1, wild, 0));
            r.due(NONE, x.out(1, 0, wild));
        }
        r.due(NONE, x.out(1, 4, 0));
        r.due(NONE, x.out(1, 0, 4));
        r.due(NONE, x.out(0, 0, 3));
    }

    private void next() {
        r.says("The NEXT of a store (0 .. S - 1) becomes a WIRE: the one it was.");
        GatePatch x = new GatePatch();
        x.begin(1, 2, 1);
        x.gate(0, NOT, 0, -1, -1);
        for (int s = 0; s < 2; s++) {
            r.due(0, x.next(0, s, 3 - s));
            r.due(3 - s, x.next(0, s, s));
            r.due(s, x.next(0, s, s));
            r.due(0, x.next(1, s, 0));
            r.due(0, x.out(0, 0, 0));
        }
        r.says("NONE: no such NET, store, WIRE.");
        for (int wild : WILD) {
            r.due(NONE, x.next(wild, 0, 0));
            r.due(NONE, x.next(0, wild, 0));
            r.due(NONE, x.next(0, 0, wild));
        }
        r.due(NONE, x.next(0, 2, 0));
        r.due(NONE, x.next(0, 0, 4));
        r.due(NONE, x.next(1, 0, 3));
        x.begin(3, 0, 1);
        r.due(NONE, x.next(0, 0, 0));
        x.begin(2, 1, 1);
        r.due(0, x.next(0, 0, 0));
        r.due(NONE, x.next(0, 1, 0));
    }

    private void free() {
        r.says("A CASE becomes FREE, or not FREE if it was: 1 if it is now, else 0.");
        GatePatch x = new GatePatch();
        x.begin(8, 0, 1);
        for (int k : new int[] {0, 63, 64, 127, 128, 191, 192, 255}) {
            r.due(1, x.free(k));
            r.due(1, x.count(5));
            r.due(0, x.free(k));
            r.due(0, x.count(5));
            r.due(1, x.free(k));
            r.due(0, x.free(k));
        }
        r.says("NONE: no such CASE.");
        for (int wild : WILD) r.due(NONE, x.free(wild));
        r.due(NONE, x.free(256));
        x.begin(1, 0, 1);
        r.due(NONE, x.free(2));
        r.due(1, x.free(1));
    }

    private void value() {
        r.says("The value of a WIRE at a CASE.");
        GatePatch x = new GatePatch();
        x.begin(6, 2, 1);
        x.gate(1, XOR, 7, 0, -1);
        for (int k = 0; k < 256; k += 15) r.due(k >> 7 & 1 ^ k & 1, x.value(1, 8, k));
        // FREE ones have a value too, and no change is needed to see the last one
        x.free(255);
        r.due(0, x.value(1, 8, 255));
        x.rewire(1, 8, 1, 7);
        r.due(0, x.value(1, 8, 254));
        x.rewire(1, 8, 0, 1);
        r.due(1, x.value(1, 8, 253));
        r.says("NONE: no such NET, WIRE, CASE.");
        for (int wild : WILD) {
            r.due(NONE, x.value(wild, 0, 0));
            r.due(NONE, x.value(1, wild, 0));
            r.due(NONE, x.value(1, 0, wild));
        }
        r.due(NONE, x.value(1, 9, 0));
        r.due(NONE, x.value(0, 8, 0));
        r.due(NONE, x.value(1, 8, 256));
        x.begin(1, 0, 1);
        r.due(NONE, x.value(1, 0, 2));
        r.due(1, x.value(1, 0, 1));
    }

    private void row() {
        r.says("The FUNCTION of a WIRE at the CASES 64 part .. 64 part + 63 as bits 0 .. 63 (0 beyond the last CASE).");
        for (int sources = 1; sources <= 8; sources++) {
            GatePatch x = new GatePatch();
            x.begin(sources, 0, 1);
            x.gate(0, ONE, -1, -1, -1);
            x.gate(0, NOT, sources - 1, -1, -1);
            for (int part = 0; part < 4; part++) {
                int cases = Math.max(0, Math.min(64, (1 << sources) - 64 * part));
                long all = cases == 64 ? -1L : (1L << cases) - 1;
                long half = 0;
                for (int k = 0; k < cases; k++) if ((64 * part + k >> sources - 1 & 1) == 0) half |= 1L << k;
                r.due(all, x.row(0, sources, part));
                r.due(half, x.row(0, sources + 1, part));
            }
        }
        r.says("IllegalArgumentException: no such NET, WIRE, or part is not 0 .. 3.");
        GatePatch x = new GatePatch();
        for (int wild : WILD) {
            r.due(1, Nets.rowThrows(x, wild, 0, 0));
            r.due(1, Nets.rowThrows(x, 0, wild, 0));
            r.due(1, Nets.rowThrows(x, 0, 0, wild));
        }
        r.due(1, Nets.rowThrows(x, 2, 0, 0));
        r.due(1, Nets.rowThrows(x, 0, 3, 0));
        r.due(1, Nets.rowThrows(x, 0, 0, 4));
        for (int part = 0; part < 4; part++) r.due(0, Nets.rowThrows(x, 1, 2, part));
    }

    private void hangs() {
        r.says("Whether a WIRE HANGS on another (1, 0).");
        GatePatch x = new GatePatch();
        x.gate(0, NOT, 1, -1, -1);
        x.gate(0, AND, 3, 2, -1);
        int[] due = {0, 1, 1, 1, 1};
        for (int o = 0; o < 5; o++) r.due(due[o], x.hangs(0, 4, o));
        r.due(0, x.hangs(0, 3, 4));
        x.rewire(0, 4, 0, 0);
        r.due(0, x.hangs(0, 4, 3));
        r.due(1, x.hangs(0, 4, 0));
        r.says("NONE: no such NET, WIRE, other.");
        for (int wild : WILD) {
            r.due(NONE, x.hangs(wild, 0, 0));
            r.due(NONE, x.hangs(0, wild, 0));
            r.due(NONE, x.hangs(0, 0, wild));
        }
        r.due(NONE, x.hangs(2, 0, 0));
        r.due(NONE, x.hangs(0, 5, 0));
        r.due(NONE, x.hangs(0, 0, 5));
        r.due(NONE, x.hangs(1, 0, 3));
    }

    // ---- 11 to 17 ----

    private void differ() {
        r.says("DIFFER; SAME (1000): there is none.");
        GatePatch x = Nets.andTo(OR);
        r.due(1, x.differ());
        // it sees each change of both nets at once
        x.rewire(1, 2, 1, 0);
        r.due(1, x.differ());
        x.rewire(0, 2, 1, 0);
        r.due(SAME, x.differ());
        x.out(0, 0, 1);
        r.due(1, x.differ());
        x.out(1, 0, 1);
        r.due(SAME, x.differ());
        r.due(SAME, new GatePatch().differ());
    }

    private void enough() {
        r.says("Whether POINTS (b, c -1 if there are fewer) are ENOUGH: SAME (1000), or the least CASE, not FREE, that no ASSIGNMENT MENDS.");
        GatePatch x = new GatePatch();
        x.begin(8, 0, 2);
        for (int g = 0; g < 3; g++) x.gate(0, ZERO, -1, -1, -1);
        x.out(0, 0, 8);
        x.out(0, 1, 9);
        x.gate(1, AND, 7, 0, -1);
        x.gate(1, AND, 6, 0, -1);
        x.out(1, 0, 8);
        x.out(1, 1, 9);
        r.due(65, x.enough(8, -1, -1));
        r.due(129, x.enough(9, -1, -1));
        r.due(65, x.enough(10, -1, -1));
        r.due(65, x.enough(8, 10, -1));
        r.due(129, x.enough(9, 10, -1));
        r.due(SAME, x.enough(8, 9, -1));
        r.due(SAME, x.enough(8, 9, 10));
        x.free(65);
        r.due(67, x.enough(8, -1, -1));
        // both nets are seen as they are now
        x.rewire(1, 9, 0, 7);
        r.due(129, x.enough(8, -1, -1));
        x.out(0, 1, 8);
        r.due(SAME, x.enough(8, -1, -1));
        r.says("NONE: they are not 1 to 3 GATES of OLD, rising.");
        for (int wild : WILD) {
            r.due(NONE, x.enough(wild, -1, -1));
            r.due(NONE, x.enough(wild, 9, 10));
            if (wild != -1) r.due(NONE, x.enough(8, wild, -1));
            if (wild != -1) r.due(NONE, x.enough(8, 9, wild));
            r.due(NONE, x.enough(8, wild, 10));
        }
        r.due(NONE, x.enough(7, -1, -1));
        r.due(NONE, x.enough(11, -1, -1));
        r.due(NONE, x.enough(9, 8, -1));
        r.due(NONE, x.enough(8, 10, 9));
        r.due(NONE, x.enough(8, 9, 11));
    }

    private void points() {
        r.says("how many they are; 0 if there is no DIFFER. It is kept. NONE: n is not 1 .. 3; UNABLE: there is none (what was kept stays).");
        GatePatch x = Nets.andTo(OR);
        for (int wild : WILD) r.due(NONE, x.points(wild));
        r.due(NONE, x.points(0));
        r.due(NONE, x.points(4));
        r.due(NONE, x.point(0));
        for (int n = 1; n < 4; n++) r.due(1, x.points(n));
        r.due(2, x.point(0));
        x.out(1, 0, 0);
        x.out(0, 0, 0);
        for (int n = 1; n < 4; n++) r.due(0, x.points(n));
        r.due(NONE, x.points(0));
        r.due(2, x.point(0));
        x.out(1, 0, 1);
        for (int n = 1; n < 4; n++) r.due(UNABLE, x.points(n));
        r.due(2, x.point(0));
        // all that differs is FREE
        for (int k = 1; k < 3; k++) x.free(k);
        r.due(0, x.points(3));
        // no GATES at all
        x = new GatePatch();
        r.due(0, x.points(1));
        x.out(1, 0, 1);
        r.due(UNABLE, x.points(3));
        r.due(NONE, x.point(0));
    }

    private void pointsOrder() {
        r.says("The first set of at most n POINTS that is ENOUGH, smaller sets first, then by the first GATE, the second, the third: how many they are;");
        // outputs 0, 1 and 2 are each the last of three GATES in a row: 3 4 5, 6 7 8, 9 10 11; WISH wants other ones
        for (int outputs = 1; outputs <= 3; outputs++) {
            GatePatch x = new GatePatch();
            x.begin(3, 0, 3);
            for (int o = 0; o < 3; o++) {
                x.gate(0, XOR, 0, 1, -1);
                for (int g = 0; g < 2; g++) x.gate(0, NOT, 3 + 3 * o + g, -1, -1);
                x.out(0, o, 5 + 3 * o);
                x.out(1, o, 2);
            }
            for (int o = outputs; o < 3; o++) {
                x.gate(1, XOR, 0, 1, -1);
                x.out(1, o, 3 + o - outputs);
            }
            for (int n = 1; n <= 3; n++) r.due(n < outputs ? UNABLE : outputs, x.points(n));
            for (int k = 0; k < 4; k++) r.due(k < outputs ? 3 + 3 * k : NONE, x.point(k));
            // 5, 8 and 11 are NOT of 12 now, so 3 and 4 do nothing; 12 alone does for all of them
            x.gate(0, ZERO, -1, -1, -1);
            for (int k = 0; k < outputs; k++) x.rewire(0, 5 + 3 * k, 0, 12);
            r.due(1, x.points(3));
            r.due(outputs == 1 ? 5 : 12, x.point(0));
            r.due(NONE, x.point(1));
        }
        // one GATE that does it all, with the greatest number, is ahead of two others
        GatePatch x = new GatePatch();
        x.begin(2, 0, 2);
        for (int g = 0; g < 2; g++) x.gate(0, ZERO, -1, -1, -1);
        x.gate(0, ONE, -1, -1, -1);
        x.gate(0, AND, 2, 4, -1);
        x.gate(0, AND, 3, 4, -1);
        x.rewire(0, 5, 0, 4);
        x.rewire(0, 6, 0, 4);
        x.out(0, 0, 5);
        x.out(0, 1, 6);
        r.due(1, x.points(3));
        r.due(4, x.point(0));
        // then the sets of two: 4 with 5 is ahead of 4 with 6, and of 5 with 6
        x.out(1, 1, 1);
        r.due(UNABLE, x.points(1));
        r.due(2, x.points(3));
        r.due(4, x.point(0));
        r.due(5, x.point(1));
        x.gate(0, NOT, 6, -1, -1);
        x.out(0, 1, 7);
        r.due(2, x.points(2));
        r.due(4, x.point(0));
        r.due(5, x.point(1));
    }

    /** The first output is right already, 0 or 1, and no POINT touches it; the second one differs late. */
    private void pointsElsewhere() {
        r.says("The first set of at most n POINTS that is ENOUGH, smaller sets first, then by the first GATE, the second, the third: how many they are;");
        for (int input = 0; input < 8; input++) {
            for (int right = 0; right < 10; right++) {
                GatePatch x = new GatePatch();
                x.begin(8, 0, 2);
                x.gate(0, ZERO, -1, -1, -1);
                x.gate(1, ZERO, -1, -1, -1);
                x.gate(0, ONE, -1, -1, -1);
                x.gate(1, ONE, -1, -1, -1);
                x.out(0, 0, right);
                x.out(1, 0, right);
                x.gate(0, ZERO, -1, -1, -1);
                x.out(0, 1, 10);
                x.out(1, 1, input);
                r.due(1 << input, x.differ());
                r.due(1, x.points(3));
                r.due(10, x.point(0));
                // it is wrong too, but only where it can't be mended
                x.out(1, 0, right == input ? 8 : input);
                r.due(right < 8 ? UNABLE : 2, x.points(3));
            }
        }
    }

    /** All sets in their order, looked at by enough(), against points(): nets of 11 GATES and 256 CASES. */
    private void pointsByEnough() {
        r.says("The first set of at most n POINTS that is ENOUGH, smaller sets first, then by the first GATE, the second, the third: how many they are;");
        int[] sizes = new int[4];
        for (int seed = 0; seed < 160; seed++) {
            GatePatch x = elevenGates(seed);
            int[] first = firstEnough(x);
            int size = first[0] == -1 ? 0 : first[1] == -1 ? 1 : first[2] == -1 ? 2 : 3;
            sizes[size]++;
            for (int n = 1; n <= 3; n++) r.due(size == 0 || n < size ? UNABLE : size, x.points(n));
            for (int k = 0; k < 3; k++) r.due(first[k], x.point(k));
        }
        // each size, and none at all, comes often enough to show something
        for (int size = 0; size < 4; size++) r.due(1, sizes[size] >= 5 ? 1 : 0);
    }

    private static GatePatch elevenGates(int seed) {
        GatePatch x = new GatePatch();
        x.begin(7, 1, 4);
        for (int g = 0; g < 11; g++) {
            int w = 8 + g;
            int a = w - 1 - (seed + g * g) % 4;
            int b = (seed / 3 + 5 * g) % w;
            int kind = AND + (seed * 7 + g * 3) % 5;
            boolean other = (seed * 5 + g * 4) % 11 < 1 + seed % 4;
            x.gate(0, kind, a, b, -1);
            x.gate(1, other ? AND + (kind + seed) % 5 : kind, a, b, -1);
        }
        for (int net = 0; net < 2; net++) {
            for (int o = 0; o < 4; o++) x.out(net, o, 18 - o * (seed % 3));
            x.next(net, 0, 8 + seed % 5);
        }
        for (int k = 0; k < seed % 5; k++) x.free(51 * k);
        if (x.differ() == SAME) x.out(1, 0, 17);
        if (x.differ() == SAME) x.out(1, 0, 7);
        return x;
    }

    private static int[] firstEnough(GatePatch x) {
        for (int a = 8; a < 19; a++) if (x.enough(a, -1, -1) == SAME) return new int[] {a, -1, -1};
        for (int a = 8; a < 19; a++) {
            for (int b = a + 1; b < 19; b++) if (x.enough(a, b, -1) == SAME) return new int[] {a, b, -1};
        }
        for (int a = 8; a < 19; a++) {
            for (int b = a + 1; b < 19; b++) {
                for (int c = b + 1; c < 19; c++) if (x.enough(a, b, c) == SAME) return new int[] {a, b, c};
            }
        }
        return new int[] {NONE, NONE, NONE};
    }

    private void point() {
        r.says("The k-th POINT that is kept by points() (its last answer above 0 since begin()). NONE: none is.");
        GatePatch x = Nets.zerosTo(0x88, 0xEE);
        for (int k = -1; k < 3; k++) r.due(NONE, x.point(k));
        r.due(2, x.points(3));
        int[] due = {NONE, 3, 4, NONE};
        for (int k = -1; k < 3; k++) r.due(due[k + 1], x.point(k));
        for (int wild : WILD) r.due(NONE, x.point(wild));
        // a smaller set is kept in its place; then 0 and UNABLE keep nothing; the GATES may be gone meanwhile
        x.image(0);
        x.out(0, 0, 4);
        x.out(1, 0, x.out(1, 1, 0));
        x.out(0, 1, 0);
        r.due(1, x.points(3));
        r.due(4, x.point(0));
        r.due(NONE, x.point(1));
        x.out(0, 0, 0);
        x.out(1, 0, 0);
        r.due(0, x.points(3));
        r.due(4, x.point(0));
        r.due(NONE, x.begin(9, 9, 9));
        r.due(4, x.point(0));
        x.begin(3, 0, 2);
        for (int k = -1; k < 3; k++) r.due(NONE, x.point(k));
    }

    private void mend() {
        r.says("The least ASSIGNMENT that MENDS a CASE.");
        GatePatch x = new GatePatch();
        x.begin(3, 0, 1);
        for (int g = 0; g < 3; g++) x.gate(0, ZERO, -1, -1, -1);
        x.gate(0, AND, 4, 5, -1);
        x.gate(0, OR, 3, 6, -1);
        x.out(0, 0, 7);
        x.out(1, 0, 2);
        for (int k = 0; k < 8; k++) {
            r.due(k < 4 ? 0 : 1, x.mend(3, 4, 5, k));
            r.due(k < 4 ? 0 : 3, x.mend(4, 5, -1, k));
            r.due(k < 4 ? 0 : 2, x.mend(4, 6, -1, k));
            r.due(k < 4 ? 0 : 4, x.mend(4, 5, 7, k));
        }
        r.says("NONE: as enough(), or no such CASE; UNABLE: none does.");
        for (int wild : WILD) {
            r.due(NONE, x.mend(3, -1, -1, wild));
            r.due(NONE, x.mend(wild, -1, -1, 0));
            r.due(NONE, x.mend(3, wild, 5, 0));
            if (wild != -1) r.due(NONE, x.mend(3, wild, -1, 0));
            if (wild != -1) r.due(NONE, x.mend(3, 4, wild, 0));
        }
        r.due(NONE, x.mend(3, -1, -1, 8));
        r.due(NONE, x.mend(2, -1, -1, 0));
        r.due(NONE, x.mend(8, -1, -1, 0));
        r.due(NONE, x.mend(3, 3, -1, 0));
        for (int k = 0; k < 8; k++) r.due(k < 4 ? 0 : UNABLE, x.mend(4, -1, -1, k));
        x.free(7);
        r.due(UNABLE, x.mend(4, -1, -1, 7));
        x.out(1, 0, 0);
        r.due(UNABLE, x.mend(4, -1, -1, 1));
        r.due(0, x.mend(4, -1, -1, 4));
    }

    private void witness() {
        r.says("TAPE d gets a row of bytes, one for each CASE: its least ASSIGNMENT that MENDS it (0 for FREE ones): how many CASES.");
        for (int sources = 3; sources <= 8; sources++) {
            GatePatch x = new GatePatch();
            x.begin(sources, 0, 1);
            for (int g = 0; g < 3; g++) x.gate(0, ONE, -1, -1, -1);
            int s = sources;
            x.gate(0, AND, s, s + 1, -1);
            x.gate(0, AND, s + 3, s + 2, -1);
            x.out(0, 0, s + 4);
            x.gate(1, XOR, 0, s - 1, -1);
            x.out(1, 0, s);
            int last = (1 << s) - 2;
            x.free(last);
            x.tape(s % 6, 4, 3);
            r.due(1 << s, x.witness(s % 6, s, s + 1, s + 2));
            for (int k = 0; k < 1 << s; k += s == 8 ? 3 : 1) {
                r.due(k != last && (k & 1) != k >> s - 1 ? 7 : 0, x.at(s % 6, k));
            }
            r.due(0, x.at(s % 6, last));
            r.due(2, Nets.atThrows(x, s % 6, 1 << s));
            r.due(SAME, x.judge(s % 6, s, s + 1, s + 2));
            r.due(1, x.clear(s % 6));
        }
        r.says("NONE: no such TAPE, or as enough(); UNABLE: they aren't ENOUGH.");
        GatePatch x = Nets.zerosTo(0x88, 0xEE);
        for (int wild : WILD) {
            r.due(NONE, x.witness(wild, 3, 4, -1));
            r.due(NONE, x.witness(0, wild, -1, -1));
            if (wild != -1) r.due(NONE, x.witness(0, 3, wild, -1));
            r.due(NONE, x.witness(0, 3, wild, 4));
        }
        r.due(NONE, x.witness(6, 3, 4, -1));
        r.due(NONE, x.witness(0, 2, 4, -1));
        r.due(NONE, x.witness(0, 3, 5, -1));
        r.due(UNABLE, x.witness(0, 3, -1, -1));
        r.due(UNABLE, x.witness(0, 4, -1, -1));
        r.due(0, x.clear(0));
        // the one CASE at which they are not may be FREE
        x = Nets.zerosTo(0x88, 0x80);
        r.due(UNABLE, x.witness(0, 3, -1, -1));
        x.free(7);
        r.due(8, x.witness(0, 3, -1, -1));
        r.due(1, x.at(0, 3));
        r.due(0, x.at(0, 7));
    }

    private void judge() {
        r.says("The row of bytes on TAPE d is looked at: SAME (1000) if its element at each CASE that isn't FREE is an ASSIGNMENT that MENDS it, else the least CASE at which not (also one below 0, or too great).");
        GatePatch x = new GatePatch();
        x.begin(8, 0, 1);
        x.gate(0, ZERO, -1, -1, -1);
        x.gate(0, ZERO, -1, -1, -1);
        x.gate(0, OR, 8, 9, -1);
        x.out(0, 0, 10);
        x.out(1, 0, 6);
        x.tape(2, 1, 256);
        for (int k = 0; k < 256; k++) if ((k >> 6 & 1) == 1) x.put(2, k, 1 + (k + 2) % 3);
        r.due(SAME, x.judge(2, 8, 9, -1));
        // for one POINT the 2 at 65 is too great; for three it is the output, 10, that isn't 1 at 64
        r.due(65, x.judge(2, 9, -1, -1));
        r.due(65, x.judge(2, 8, -1, -1));
        r.due(64, x.judge(2, 8, 9, 10));
        for (int k : new int[] {255, 200, 191, 128, 127, 64, 63, 1, 0}) {
            x.put(2, k, k % 2 == 0 ? 4 : -1);
            r.due(k, x.judge(2, 8, 9, -1));
        }
        for (int k : new int[] {0, 1, 63, 64}) {
            x.free(k);
            r.due(k == 0 ? 1 : k == 1 ? 63 : k == 63 ? 64 : 127, x.judge(2, 8, 9, -1));
        }
        // 127 and -128 are bytes too
        x.put(2, 65, 127);
        r.due(65, x.judge(2, 8, 9, -1));
        x.put(2, 65, -128);
        r.due(65, x.judge(2, 8, 9, -1));
        x.put(2, 65, 3);
        r.due(127, x.judge(2, 8, 9, -1));
        judgeBorders();
        judgeRefusals();
    }

    /** The greatest nets there are, one element wrong at a time; then the same with its CASE FREE. */
    private void judgeBorders() {
        GatePatch x = new GatePatch();
        x.begin(8, 0, 1);
        for (int g = 0; g < 40; g++) x.gate(0, ZERO, -1, -1, -1);
        x.out(0, 0, 47);
        x.gate(1, ZERO, -1, -1, -1);
        x.out(1, 0, 8);
        r.due(256, x.witness(4, 47, -1, -1));
        r.due(SAME, x.judge(4, 47, -1, -1));
        for (int k : new int[] {0, 1, 62, 63, 64, 65, 127, 128, 191, 192, 254, 255}) {
            x.put(4, k, 1);
            r.due(k, x.judge(4, 47, -1, -1));
            x.free(k);
            r.due(SAME, x.judge(4, 47, -1, -1));
            x.free(k);
            x.put(4, k, 0);
            r.due(SAME, x.judge(4, 47, -1, -1));
        }
    }

    private void judgeRefusals() {
        r.says("NONE: as witness(); NOTHING; CAST; PLACE: it is too short for a CASE ahead of which all is well.");
        GatePatch x = Nets.zeroTo(0x80);
        for (int wild : WILD) {
            r.due(NONE, x.judge(wild, 3, -1, -1));
            r.due(NONE, x.judge(0, wild, -1, -1));
            r.due(NONE, x.judge(0, 3, wild, 3));
        }
        r.due(NONE, x.judge(6, 3, -1, -1));
        r.due(NONE, x.judge(0, 4, -1, -1));
        r.due(NOTHING, x.judge(0, 3, -1, -1));
        for (int sort = 2; sort <= 5; sort++) {
            if (sort < 5) x.tape(0, sort, 8); else x.image(0);
            r.due(CAST, x.judge(0, 3, -1, -1));
        }
        for (int n = 0; n <= 9; n++) {
            x.tape(0, 1, n);
            r.due(n < 8 ? PLACE : 7, x.judge(0, 3, -1, -1));
            if (n > 2) x.put(0, 2, 1);
            r.due(n > 2 ? 2 : PLACE, x.judge(0, 3, -1, -1));
        }
        // what is FREE needs no element
        x.free(7);
        x.tape(0, 1, 7);
        r.due(SAME, x.judge(0, 3, -1, -1));
        x.tape(0, 1, 6);
        r.due(PLACE, x.judge(0, 3, -1, -1));
        x.free(6);
        r.due(SAME, x.judge(0, 3, -1, -1));
        x.free(7);
        r.due(PLACE, x.judge(0, 3, -1, -1));
        // it sees both nets as they are now, without any other call between
        x = Nets.zeroTo(0x80);
        x.tape(0, 1, 8);
        x.out(1, 0, 0);
        r.due(1, x.judge(0, 3, -1, -1));
        x.out(0, 0, 1);
        r.due(1, x.judge(0, 3, -1, -1));
        x.out(1, 0, 1);
        r.due(SAME, x.judge(0, 3, -1, -1));
        x.begin(8, 0, 1);
        x.gate(0, ZERO, -1, -1, -1);
        x.out(0, 0, 8);
        x.gate(1, AND, 6, 7, -1);
        x.out(1, 0, 8);
        for (int n : new int[] {0, 1, 64, 65, 128, 191, 192}) {
            x.tape(1, 1, n);
            r.due(PLACE, x.judge(1, 8, -1, -1));
        }
        x.tape(1, 1, 193);
        r.due(192, x.judge(1, 8, -1, -1));
        x.put(1, 192, 1);
        r.due(PLACE, x.judge(1, 8, -1, -1));
    }

    // ---- 18 to 26 ----

    private void patch() {
        r.says("The PATCH for the POINTS a and b (-1: a alone) by the TOLD WIRES u, v, w (-1 where there are fewer; none ahead of one): its COSTS added. It is kept, not PLACED.");
        GatePatch x = Nets.zerosTo(0x88, 0x33);
        x.spare(AND, 0, 0);
        x.spare(NOT, 0, 0);
        r.due(2, x.patch(3, 4, 0, 1, 2));
        r.due(0, x.patched(3));
        r.due(0, x.place());
        r.due(1, x.patched(3));
        r.due(2, x.patch(3, 4, 0, 1, -1));
        r.due(0, x.patched(3));
        r.due(-2, x.node(0, 4));
        r.due(2, x.patched(2));
        x = Nets.zeroTo(0x55);
        r.due(1, x.patch(3, -1, 0, -1, -1));
        r.due(1, x.patched(1));
        r.due(1, x.patched(2));
        x = Nets.zeroTo(255);
        r.due(0, x.patch(3, -1, -1, -1, -1));
        r.due(0, x.patched(2));
        r.due(1, x.function(0));
        r.says("NONE: not POINTS as in III, or not rising WIRES of OLD; RING: a TOLD WIRE HANGS on a POINT; UNABLE: there is a CLASH, which is kept; no PATCH is kept then.");
        for (int wild : WILD) {
            r.due(NONE, x.patch(wild, -1, 0, 1, 2));
            if (wild != -1) r.due(NONE, x.patch(3, wild, 0, 1, 2));
            r.due(NONE, x.patch(3, -1, wild, 1, 2));
            r.due(NONE, x.patch(3, -1, 0, wild, 2));
            if (wild != -1) r.due(NONE, x.patch(3, -1, 0, 1, wild));
        }
        r.due(NONE, x.patch(2, -1, 0, 1, 2));
        r.due(NONE, x.patch(4, -1, 0, 1, 2));
        r.due(NONE, x.patch(3, 3, 0, 1, 2));
        r.due(NONE, x.patch(3, -1, 0, 0, 2));
        r.due(NONE, x.patch(3, -1, 0, 2, 1));
        r.due(NONE, x.patch(3, -1, 0, 2, 4));
        r.due(RING, x.patch(3, -1, 0, 1, 3));
        r.due(RING, x.patch(3, -1, 3, -1, -1));
        r.due(1, x.function(0));
        r.due(NONE, x.clash(0));
        x = Nets.zeroTo(0x04);
        r.due(NONE, x.patched(0));
        r.due(UNABLE, x.patch(3, -1, 0, 1, -1));
        r.due(2, x.clash(0));
        r.due(6, x.clash(1));
        r.due(NONE, x.patched(0));
        x.free(6);
        r.due(2, x.patch(3, -1, 0, 1, -1));
        r.due(UNABLE, x.patch(3, -1, 0, -1, -1));
        r.due(NONE, x.patched(0));
        r.due(NONE, x.apply());
        r.due(0, x.clash(0));
        r.due(2, x.clash(1));
    }

    private void clash() {
        r.says("Of the last CLASH since begin(): what 0 the first CASE with its PATTERN, 1 the CASE. NONE: there was none, no such what.");
        GatePatch x = Nets.zeroTo(0x20);
        for (int what = -1; what < 3; what++) r.due(NONE, x.clash(what));
        r.due(UNABLE, x.patch(3, -1, 0, -1, -1));
        r.due(1, x.clash(0));
        r.due(5, x.clash(1));
        for (int wild : WILD) r.due(NONE, x.clash(wild));
        r.due(NONE, x.clash(2));
        // a PATCH, changes of the nets and refusals leave it; the next one takes its place
        r.due(2, x.patch(3, -1, 0, 1, 2));
        x.gate(0, NOT, 0, -1, -1);
        x.patch(3, -1, 3, -1, -1);
        x.best(4);
        r.due(1, x.clash(0));
        r.due(5, x.clash(1));
        r.due(UNABLE, x.patch(3, -1, 1, -1, -1));
        r.due(0, x.clash(0));
        r.due(5, x.clash(1));
        x.begin(9, 0, 1);
        r.due(5, x.clash(1));
        x.begin(3, 0, 1);
        r.due(NONE, x.clash(0));
        r.due(NONE, x.clash(1));
    }

    private void mark() {
        r.says("A WIRE of OLD has a price (0 .. 9) and is MARKED with it; price -1: it is MARKED no more: how many are MARKED now.");
        GatePatch x = new GatePatch();
        x.begin(8, 0, 1);
        for (int g = 0; g < 4; g++) x.gate(0, NOT, 0, -1, -1);
        r.due(0, x.mark(0, -1));
        for (int w = 0; w < 10; w++) r.due(w + 1, x.mark(w, w));
        for (int w = 0; w < 10; w++) r.due(10, x.mark(w, 9 - w));
        r.says("NONE: no such WIRE, price; FULL (of prices from 0): 10 are MARKED, and it isn't.");
        for (int price = 0; price < 10; price++) r.due(FULL, x.mark(10, price));
        r.due(10, x.mark(10, -1));
        r.due(10, x.mark(11, -1));
        for (int wild : WILD) {
            r.due(NONE, x.mark(wild, 0));
            r.due(NONE, x.mark(wild, -1));
            if (wild != -1) r.due(NONE, x.mark(0, wild));
        }
        r.due(NONE, x.mark(12, 0));
        r.due(NONE, x.mark(0, 10));
        r.due(NONE, x.mark(10, 10));
        r.due(9, x.mark(4, -1));
        r.due(9, x.mark(4, -1));
        r.due(10, x.mark(11, 0));
        r.due(FULL, x.mark(4, 0));
        r.due(10, x.mark(11, 0));
        for (int w = 11; w > 0; w--) if (w != 10 && w != 4) r.due(w == 11 ? 9 : w > 4 ? w - 1 : w, x.mark(w, -1));
        r.due(0, x.mark(0, -1));
        // WISH's WIRES are none of OLD's
        for (int g = 0; g < 9; g++) x.gate(1, NOT, 0, -1, -1);
        r.due(NONE, x.mark(12, 0));
    }

    private void marksStay() {
        r.says("(MARKS stay until begin(), or until undo() or back() takes the WIRE away.)");
        GatePatch x = Nets.andTo(OR);
        x.image(0);
        x.mark(0, 1);
        x.mark(2, 1);
        x.patch(2, -1, 0, 1, -1);
        r.due(1, x.apply());
        r.due(3, x.mark(3, 1));
        // changes of all kinds leave them
        x.gate(1, NOT, 0, -1, -1);
        x.free(0);
        x.points(2);
        x.delay(0, 0);
        r.due(0, x.undo());
        r.due(2, x.mark(1, -1));
        x.rewire(0, 2, 0, 1);
        x.out(0, 0, 1);
        x.site(0, 1, 1);
        x.spare(0, 1, 1);
        r.due(2, x.mark(1, -1));
        // a new GATE with the number of one that was taken away isn't MARKED
        r.due(3, x.gate(0, NOT, 0, -1, -1));
        r.due(2, x.mark(3, -1));
        r.due(3, x.mark(3, 1));
        r.due(4, x.gate(0, NOT, 0, -1, -1));
        r.due(4, x.mark(4, 1));
        x.image(1);
        r.due(1, x.back(0));
        r.due(2, x.mark(1, -1));
        r.due(3, x.back(1));
        r.due(2, x.mark(1, -1));
        r.due(3, x.mark(4, 1));
        r.due(3, x.back(1));
        r.due(3, x.mark(1, -1));
        r.due(NONE, x.back(6));
        r.due(3, x.mark(1, -1));
        x.begin(2, 0, 1);
        r.due(0, x.mark(1, -1));
        // back() with a GATE in each place: the MARKS are of the numbers
        x.gate(0, NOT, 0, -1, -1);
        x.image(0);
        x.mark(2, 7);
        r.due(1, x.back(0));
        r.due(1, x.mark(0, -1));
        r.due(0, x.mark(2, -1));
    }

    private void best() {
        r.says("The PATCH for the POINT a by 0 to 3 MARKED WIRES that don't HANG on it, with the least of 10 times its COST and their prices added;");
        // 0 WIRES: the function is the same everywhere
        GatePatch x = Nets.zeroTo(255);
        r.due(0, x.best(3));
        r.due(0, x.patched(2));
        r.due(1, x.function(0));
        x = Nets.zeroTo(0x88);
        for (int w = 0; w < 4; w++) x.mark(w, 3 * w);
        r.due(13, x.best(3));
        r.due(2, x.patched(2));
        x.gate(0, AND, 0, 1, -1);
        x.mark(4, 9);
        r.due(9, x.best(3));
        r.due(1, x.patched(2));
        r.due(4, x.told(0));
        // it HANGS on the POINT now: no more of use, and the POINT itself never is
        x.rewire(0, 3, 0, 0);
        x.rewire(0, 4, 0, 3);
        r.due(13, x.best(3));
        x = Nets.zeroTo(0x88);
        x.gate(0, AND, 0, 1, -1);
        x.gate(0, AND, 3, 4, -1);
        x.mark(0, 9);
        x.mark(1, 9);
        x.mark(3, 0);
        x.mark(4, 9);
        x.mark(5, 0);
        r.due(9, x.best(3));
        r.due(4, x.told(0));
        bestHanging();
        // a WIRE for nothing is one too, and each price counts
        x.mark(4, 0);
        r.due(0, x.best(3));
        r.due(4, x.told(0));
        for (int price = 1; price < 10; price++) {
            x.mark(4, price);
            r.due(price, x.best(3));
        }
        x.mark(4, -1);
        r.due(28, x.best(3));
        // the first of them may be WIRE 0, with its price, as the second and the third one with theirs
        x = Nets.zeroTo(150);
        x.mark(0, 1);
        x.mark(1, 2);
        x.mark(2, 4);
        r.due(27, x.best(3));
        for (int w = 0; w < 3; w++) r.due(w, x.told(w));
        r.says("that sum. It is kept, not PLACED.");
        x.spare(XOR, 0, 0);
        x.spare(XOR, 0, 0);
        r.due(27, x.best(3));
        r.due(0, x.place());
        r.due(1, x.patched(3));
        r.due(27, x.best(3));
        r.due(0, x.patched(3));
        r.due(2, x.apply());
        r.due(SAME, x.differ());
        bestRefusals();
    }

    /** A WIRE that does all that is wanted, for nothing, but HANGS on the POINT; and the POINT itself. */
    private void bestHanging() {
        GatePatch x = Nets.andTo(NAND);
        x.gate(0, NOT, 2, -1, -1);
        x.gate(0, AND, 3, 3, -1);
        x.mark(3, 0);
        x.mark(4, 0);
        r.due(UNABLE, x.best(2));
        x.mark(0, 1);
        x.mark(1, 1);
        r.due(12, x.best(2));
        r.due(2, x.patched(2));
        r.due(0, x.told(0));
        r.due(1, x.told(1));
        x = Nets.andTo(AND);
        x.mark(2, 0);
        r.due(UNABLE, x.best(2));
        x.gate(0, AND, 0, 1, -1);
        x.mark(3, 5);
        r.due(5, x.best(2));
        r.due(3, x.told(0));
        // now 2 HANGS on 3, and neither of them is of use for 3
        x.rewire(0, 2, 0, 3);
        r.due(UNABLE, x.best(3));
    }

    private void bestRefusals() {
        r.says("NONE: it is no GATE of OLD; UNABLE: no such set can (the last CLASH stays, no PATCH is kept then).");
        GatePatch x = Nets.zeroTo(0x88);
        for (int wild : WILD) r.due(NONE, x.best(wild));
        r.due(NONE, x.best(2));
        r.due(NONE, x.best(4));
        r.due(UNABLE, x.best(3));
        r.due(NONE, x.clash(0));
        x.mark(0, 0);
        x.mark(2, 0);
        r.due(UNABLE, x.best(3));
        x.mark(1, 9);
        r.due(19, x.best(3));
        r.due(NONE, x.clash(0));
        x.mark(1, -1);
        r.due(1, x.patched(0));
        r.due(UNABLE, x.best(3));
        r.due(NONE, x.patched(0));
        r.due(UNABLE, x.patch(3, -1, 2, -1, -1));
        r.due(3, x.clash(1));
        r.due(UNABLE, x.best(3));
        r.due(0, x.clash(0));
        r.due(3, x.clash(1));
    }

    private void bestOrder() {
        r.says("then the fewest WIRES; then the set that is first by its first WIRE, its second, its third:");
        // x0 and x1 are each WIRE twice: 0 and 4, 1 and 5; their AND is 6
        GatePatch x = Nets.zeroTo(0x88);
        x.gate(0, OR, 0, 0, -1);
        x.gate(0, OR, 1, 1, -1);
        x.gate(0, AND, 0, 1, -1);
        x.mark(6, 0);
        x.mark(0, 0);
        x.mark(1, 0);
        r.due(0, x.best(3));
        r.due(1, x.patched(2));
        x.mark(6, -1);
        x.mark(4, 0);
        x.mark(5, 0);
        int[][] prices = {{0, 0, 0, 0}, {1, 0, 0, 0}, {0, 1, 0, 0}, {1, 1, 0, 0}, {0, 0, 1, 1}, {3, 2, 3, 1}, {2, 3, 1, 3}};
        int[][] due = {{0, 1}, {1, 4}, {0, 5}, {4, 5}, {0, 1}, {0, 5}, {1, 4}};
        int[] sums = {10, 10, 10, 10, 10, 14, 14};
        for (int i = 0; i < prices.length; i++) {
            int[] wires = {0, 1, 4, 5};
            for (int k = 0; k < 4; k++) x.mark(wires[k], prices[i][k]);
            r.due(sums[i], x.best(3));
            r.due(2, x.patched(2));
            r.due(due[i][0], x.told(0));
            r.due(due[i][1], x.told(1));
        }
        // one WIRE for 10 and none of COST 0 is as dear as two WIRES: the fewest
        x = Nets.zeroTo(0x88);
        x.gate(0, NAND, 0, 1, -1);
        x.mark(0, 2);
        x.mark(1, 2);
        x.mark(4, 4);
        r.due(14, x.best(3));
        r.due(1, x.patched(2));
        r.due(4, x.told(0));
        x.mark(0, 1);
        r.due(13, x.best(3));
        r.due(2, x.patched(2));
        // no WIRE at all is fewer than one for nothing
        x = Nets.zeroTo(0);
        for (int w = 0; w < 3; w++) x.mark(w, 0);
        r.due(0, x.best(3));
        r.due(0, x.patched(2));
        // three of them, by the third WIRE: 2 and 4 are twins
        x = Nets.zeroTo(150);
        x.gate(0, AND, 2, 2, -1);
        for (int w = 0; w < 5; w++) if (w != 3) x.mark(w, 3);
        r.due(29, x.best(3));
        r.due(2, x.told(2));
        x.mark(2, 4);
        r.due(29, x.best(3));
        r.due(4, x.told(2));
    }

    /** 10 MARKED WIRES, all of use, and the last three of them are wanted. */
    private void bestMany() {
        r.says("The PATCH for the POINT a by 0 to 3 MARKED WIRES that don't HANG on it, with the least of 10 times its COST and their prices added;");
        GatePatch x = new GatePatch();
        x.begin(8, 0, 1);
        x.gate(0, ZERO, -1, -1, -1);
        for (int g = 0; g < 2; g++) x.gate(0, NAND, g, g + 1, -1);
        x.out(0, 0, 8);
        x.gate(1, XOR, 5, 6, -1);
        x.gate(1, XOR, 8, 7, -1);
        x.out(1, 0, 9);
        for (int w = 0; w < 11; w++) if (w != 8) x.mark(w, 9);
        r.due(FULL, x.mark(8, 0));
        r.due(47, x.best(8));
        for (int k = 0; k < 3; k++) r.due(5 + k, x.told(k));
        x.rewire(1, 9, 1, 3);
        r.due(47, x.best(8));
        r.due(3, x.told(0));
        r.due(5, x.told(1));
        r.due(6, x.told(2));
        x.rewire(1, 9, 1, 8);
        r.due(0, x.best(8));
        x.out(1, 0, 8);
        r.due(28, x.best(8));
        x.out(1, 0, x.gate(1, NAND, 1, 2, -1));
        r.due(9, x.best(8));
        r.due(10, x.told(0));
        // without MARKS on WIRES above a few, what was of use before is of use no more
        for (int w = 3; w < 11; w++) x.mark(w, -1);
        r.due(28, x.best(8));
        r.due(1, x.told(0));
        r.due(2, x.told(1));
        x.mark(2, -1);
        r.due(UNABLE, x.best(8));
    }

    private void patched() {
        r.says("Of the PATCH: what 0 how many GATES, 1 how many POINTS, 2 how many TOLD WIRES, 3 1 if it is PLACED, else 0. NONE: there is no PATCH, no such what.");
        GatePatch x = Nets.zerosTo(0x88, 0xF0);
        for (int what = -1; what < 5; what++) r.due(NONE, x.patched(what));
        x.spare(AND, 1, 1);
        r.due(1, x.patch(3, 4, 0, 1, 2));
        int[] due = {NONE, 1, 2, 3, 0, NONE};
        for (int what = -1; what < 5; what++) r.due(due[what + 1], x.patched(what));
        x.place();
        r.due(1, x.patched(3));
        for (int wild : WILD) r.due(NONE, x.patched(wild));
        x.apply();
        for (int what = -1; what < 5; what++) r.due(NONE, x.patched(what));
    }

    private void function() {
        r.says("The function of the PATCH's k-th POINT. NONE: there is no PATCH, no such POINT.");
        GatePatch x = Nets.zerosTo(0x88, 0xF0);
        r.due(NONE, x.function(0));
        x.patch(3, 4, 0, 1, 2);
        int[] due = {NONE, 0x88, 0xF0, NONE};
        for (int k = -1; k < 3; k++) r.due(due[k + 1], x.function(k));
        for (int wild : WILD) r.due(NONE, x.function(wild));
        x.out(0, 1, 0);
        x.out(1, 1, 0);
        r.due(NONE, x.function(0));
        r.due(1, x.patch(3, -1, 0, 1, 2));
        r.due(0x88, x.function(0));
        r.due(NONE, x.function(1));
        x.apply();
        r.due(NONE, x.function(0));
    }

    private void told() {
        r.says("The j-th TOLD WIRE of the PATCH. NONE: there is none.");
        GatePatch x = Nets.zeroTo(255);
        r.due(NONE, x.told(0));
        int[][] tolds = {{-1, -1, -1}, {2, -1, -1}, {0, 2, -1}, {0, 1, 2}};
        for (int m = 0; m < 4; m++) {
            r.due(0, x.patch(3, -1, tolds[m][0], tolds[m][1], tolds[m][2]));
            for (int j = 0; j < 4; j++) r.due(j < m ? tolds[m][j] : NONE, x.told(j));
        }
        for (int wild : WILD) r.due(NONE, x.told(wild));
        // a call that is refused leaves them
        r.due(RING, x.patch(3, -1, 3, -1, -1));
        r.due(NONE, x.patch(3, -1, 2, 1, -1));
        for (int j = 0; j < 3; j++) r.due(j, x.told(j));
        x.free(0);
        r.due(NONE, x.told(0));
    }

    private void node() {
        r.says("Of the PATCH's i-th GATE: what 0 KIND, 1 and 2 its first and second part: the number of a GATE of the PATCH, or 100 + j for a leaf j, 200 for ZERO, 201 for ONE, -2 for none; 3 the POINT it is for (0, 1), 4 its SPARE if it is PLACED, else -2.");
        // x0 x1 or x2; not x1
        GatePatch x = Nets.zerosTo(0xF8, 0x33);
        for (int s = 0; s < 3; s++) x.spare(OR - s, s, s);
        r.due(NONE, x.node(0, 0));
        r.due(3, x.patch(3, 4, 0, 1, 2));
        // the first part is the least function that does: 0x88 is less than 0xF0
        int[][] due = {{AND, 100, 101, 0, -2}, {OR, 0, 102, 0, -2}, {NOT, 101, -2, 1, -2}};
        int[] spare = {1, 0, 2};
        for (int i = 0; i < 3; i++) for (int what = 0; what < 5; what++) r.due(due[i][what], x.node(i, what));
        x.place();
        for (int i = 0; i < 3; i++) for (int what = 0; what < 5; what++) r.due(what == 4 ? spare[i] : due[i][what], x.node(i, what));
        r.says("NONE: there is none, no such what.");
        for (int wild : WILD) {
            r.due(NONE, x.node(wild, 0));
            r.due(NONE, x.node(0, wild));
        }
        r.due(NONE, x.node(3, 0));
        r.due(NONE, x.node(0, 5));
        x.apply();
        r.due(NONE, x.node(0, 0));
        x = Nets.zeroTo(255);
        x.patch(3, -1, 0, 1, 2);
        r.due(NONE, x.node(0, 0));
    }

    private void cost() {
        r.says("COST of a function for m. NONE: m is not 0 .. 3, no such function.");
        GatePatch x = new GatePatch();
        for (int wild : WILD) {
            r.due(NONE, x.cost(wild, 0));
            for (int m = 0; m < 4; m++) r.due(NONE, x.cost(m, wild));
        }
        int[] last = {1, 3, 15, 255};
        for (int m = 0; m < 4; m++) {
            r.due(0, x.cost(m, last[m]));
            r.due(NONE, x.cost(m, last[m] + 1));
        }
        r.due(NONE, x.cost(4, 0));
        r.due(NONE, x.cost(4, 65535));
        // the same number is another function for another m
        r.due(1, x.cost(1, 1));
        r.due(1, x.cost(2, 1));
        r.due(2, x.cost(3, 1));
        r.due(0, x.cost(2, 10));
        r.due(2, x.cost(3, 10));
        // neither the state of the nets nor a PATCH matters
        x = Refusals.scene(0);
        r.due(4, x.cost(3, 232));
    }

    // ---- 27 to 33 ----

    private void site() {
        r.says("A WIRE of OLD gets a place: 32 y + x of the one it had. NONE: no such WIRE, x, y.");
        GatePatch x = new GatePatch();
        x.gate(0, NOT, 0, -1, -1);
        for (int w = 0; w < 4; w++) {
            r.due(0, x.site(w, 31, w));
            r.due(32 * w + 31, x.site(w, w, 31));
            r.due(992 + w, x.site(w, w, 31));
        }
        for (int w = 0; w < 4; w++) r.due(992 + w, x.site(w, 0, 0));
        for (int wild : WILD) {
            r.due(NONE, x.site(wild, 0, 0));
            r.due(NONE, x.site(0, wild, 0));
            r.due(NONE, x.site(0, 0, wild));
        }
        r.due(NONE, x.site(4, 0, 0));
        r.due(NONE, x.site(0, 32, 0));
        r.due(NONE, x.site(0, 0, 32));
        r.due(0, x.site(0, 0, 0));
    }

    private void spare() {
        r.says("A SPARE is there: its number. NONE: no such KIND (0 .. 5), x, y; FULL: 12.");
        GatePatch x = new GatePatch();
        for (int wild : WILD) {
            r.due(NONE, x.spare(wild, 0, 0));
            r.due(NONE, x.spare(0, wild, 0));
            r.due(NONE, x.spare(0, 0, wild));
        }
        r.due(NONE, x.spare(6, 0, 0));
        r.due(NONE, x.spare(0, 32, 0));
        r.due(NONE, x.spare(0, 0, 32));
        r.due(0, x.count(6));
        for (int s = 0; s < 12; s++) r.due(s, x.spare(s % 6, s % 2 * 31, s % 3 * 15));
        for (int kind = 0; kind < 6; kind++) r.due(FULL, x.spare(kind, 0, 0));
        r.due(12, x.count(6));
        // each KIND is of use for its own GATES
        for (int kind = 0; kind < 6; kind++) {
            int[] functions = {0x55, 0x88, 0xEE, 0x66, 0x77, 0x11};
            for (int other = 0; other < 6; other++) {
                GatePatch y = Nets.zeroTo(functions[kind]);
                y.spare(other, 0, 0);
                r.due(1, y.patch(3, -1, 0, 1, -1));
                r.due(kind, y.node(0, 0));
                r.due(kind == other ? 0 : SPARE, y.place());
            }
        }
    }

    private void place() {
        r.says("The PATCH is PLACED: the LENGTHS added. NONE: there is no PATCH; SPARE (-5): there is no PLACING.");
        GatePatch x = Nets.zeroTo(0x88);
        r.due(NONE, x.place());
        r.due(1, x.patch(3, -1, 0, 1, -1));
        r.due(SPARE, x.place());
        r.due(0, x.patched(3));
        r.due(-2, x.node(0, 4));
        x.spare(OR, 0, 0);
        r.due(NONE, x.place());
        r.due(1, x.patch(3, -1, 0, 1, -1));
        r.due(SPARE, x.place());
        x.spare(AND, 2, 3);
        r.due(1, x.patch(3, -1, 0, 1, -1));
        r.due(15, x.place());
        r.due(1, x.patched(3));
        r.due(15, x.place());
        r.due(1, x.node(0, 4));
        r.due(1, x.apply());
        r.due(NONE, x.place());
        // the one SPARE is USED; without a PLACING the PATCH is kept and can be APPLIED
        x.out(0, 0, 3);
        r.due(1, x.patch(3, -1, 0, 1, -1));
        r.due(SPARE, x.place());
        r.due(1, x.apply());
        r.due(0, x.site(5, 0, 0));
        r.due(SAME, x.differ());
        placeAgain();
    }

    /** As many SPARES as GATES, behind PLACINGS of more of them that were found and that were not. */
    private void placeAgain() {
        GatePatch x = new GatePatch();
        for (int most = 3; most > 0; most--) {
            x.begin(2, 0, 1);
            x.gate(0, ZERO, -1, -1, -1);
            x.out(0, 0, 2);
            x.out(1, 0, x.gate(1, AND, 0, 1, -1));
            for (int s = 0; s < most; s++) x.spare(AND, 10 + s, 0);
            r.due(1, x.patch(2, -1, 0, 1, -1));
            r.due(30, x.place());
            r.due(0, x.node(0, 4));
            r.due(most, x.spare(NOT, 0, 0));
            x.out(1, 0, x.gate(1, NOT, 0, -1, -1));
            r.due(1, x.patch(2, -1, 0, -1, -1));
            r.due(0, x.place());
            r.due(most, x.node(0, 4));
        }
        // two GATES that want two SPARES, ahead of one that wants the only one
        x = Nets.zerosTo(0x88, 0x88);
        for (int s = 0; s < 2; s++) x.spare(AND, 5, 5 * s);
        r.due(2, x.patch(3, 4, 0, 1, -1));
        r.due(45, x.place());
        x.begin(2, 0, 1);
        x.gate(0, ZERO, -1, -1, -1);
        x.out(0, 0, 2);
        x.out(1, 0, x.gate(1, AND, 0, 1, -1));
        x.spare(AND, 1, 1);
        r.due(1, x.patch(2, -1, 0, 1, -1));
        r.due(6, x.place());
    }

    private void used() {
        r.says("Whether a SPARE is USED (1, 0). NONE: there is none.");
        GatePatch x = Nets.zeroTo(0x88);
        for (int wild : WILD) r.due(NONE, x.used(wild));
        r.due(NONE, x.used(0));
        for (int s = 0; s < 12; s++) x.spare(AND, 12 - s, 0);
        for (int s = 0; s < 12; s++) r.due(0, x.used(s));
        r.due(NONE, x.used(12));
        r.due(1, x.patch(3, -1, 0, 1, -1));
        r.due(3, x.place());
        r.due(0, x.used(11));
        r.due(1, x.apply());
        for (int s = 0; s < 12; s++) r.due(s == 11 ? 1 : 0, x.used(s));
        r.due(0, x.undo());
        r.due(0, x.used(11));
        r.due(NONE, x.used(12));
        // back() does not give them back, another begin() does
        x.image(0);
        x.patch(3, -1, 0, 1, -1);
        x.place();
        x.apply();
        x.back(0);
        r.due(1, x.used(11));
        x.patch(3, -1, 0, 1, -1);
        r.due(6, x.place());
        r.due(10, x.node(0, 4));
        x.apply();
        x.begin(3, 0, 1);
        r.due(NONE, x.used(11));
        x.spare(AND, 0, 0);
        r.due(0, x.used(0));
        r.due(NONE, x.used(1));
    }

    private void delay() {
        r.says("A KIND gets a DELAY: the one it had. NONE: no such KIND, DELAY.");
        GatePatch x = new GatePatch();
        for (int kind = 0; kind < 9; kind++) {
            r.due(1, x.delay(kind, 9));
            r.due(9, x.delay(kind, 0));
            r.due(0, x.delay(kind, 9 - kind));
            r.due(NONE, x.delay(kind, 10));
            r.due(NONE, x.delay(kind, -1));
        }
        for (int kind = 0; kind < 9; kind++) r.due(9 - kind, x.delay(kind, 1));
        for (int wild : WILD) {
            r.due(NONE, x.delay(wild, 1));
            r.due(NONE, x.delay(0, wild));
        }
        r.due(NONE, x.delay(9, 1));
        r.due(1, x.delay(0, 1));
    }

    private void arrive() {
        r.says("When a WIRE ARRIVES. NONE: no such NET, WIRE.");
        GatePatch x = new GatePatch();
        for (int net = 0; net < 2; net++) {
            x.gate(net, NOT, 0, -1, -1);
            x.gate(net, XOR, 3, 3, -1);
            r.due(2, x.arrive(net, 4));
            r.due(0, x.arrive(net, 0));
            for (int wild : WILD) {
                r.due(NONE, x.arrive(wild, 0));
                r.due(NONE, x.arrive(net, wild));
            }
            r.due(NONE, x.arrive(net, 5));
        }
        r.due(NONE, x.arrive(2, 0));
        // it sees changes of DELAYS and PINS at once
        x.delay(XOR, 5);
        r.due(6, x.arrive(0, 4));
        r.due(6, x.arrive(1, 4));
        x.rewire(0, 4, 0, 0);
        r.due(6, x.arrive(0, 4));
        x.rewire(0, 4, 1, 0);
        r.due(5, x.arrive(0, 4));
        x.rewire(0, 3, 0, 4);
        r.due(6, x.arrive(0, 3));
    }

    private void late() {
        r.says("How many OBSERVED of OLD ARRIVE behind a tick. NONE: it is below 0.");
        GatePatch x = new GatePatch();
        x.begin(2, 2, 4);
        r.due(0, x.late(0));
        for (int g = 0; g < 6; g++) x.gate(0, NOT, 3 + g, -1, -1);
        for (int o = 0; o < 4; o++) x.out(0, o, 4 + o);
        for (int s = 0; s < 2; s++) x.next(0, s, 9);
        // they ARRIVE at 1, 2, 3, 4, 6 and 6
        int[] due = {6, 5, 4, 3, 2, 2, 0};
        for (int tick = 0; tick < 7; tick++) r.due(due[tick], x.late(tick));
        r.due(0, x.late(MOST));
        r.due(NONE, x.late(-1));
        r.due(NONE, x.late(LEAST));
        // one WIRE counts as often as it is OBSERVED
        for (int o = 0; o < 4; o++) x.out(0, o, 9);
        r.due(6, x.late(5));
        r.due(0, x.late(6));
        x.delay(NOT, 9);
        r.due(6, x.late(53));
        r.due(0, x.late(54));
    }

    // ---- 34 to 38 ----

    private void apply() {
        r.says("The PATCH is APPLIED: how many GATES are added. (There is no PATCH then.)");
        int[][] rows = {{0, 1}, {255, 1}, {0xAA, 0}, {0x55, 1}, {150, 2}, {105, 3}, {22, 4}};
        for (int[] row : rows) {
            GatePatch x = Nets.zeroTo(row[0]);
            x.patch(3, -1, 0, 1, 2);
            r.due(row[1], x.apply());
            r.due(1 + row[1], x.count(3));
            r.due(1, x.count(7));
            for (int what = 0; what < 4; what++) r.due(NONE, x.patched(what));
            r.due(NONE, x.node(0, 0));
            r.due(NONE, x.apply());
            r.due(SAME, x.differ());
            r.due(row[0], x.row(0, x.out(0, 0, 0), 0));
        }
        r.says("NONE: there is no PATCH; FULL: OLD would have more than 40 GATES.");
        GatePatch x = Nets.zeroTo(22);
        r.due(NONE, x.apply());
        x.patch(3, -1, 0, -1, -1);
        r.due(NONE, x.apply());
        // a CLASH leaves none
        x.patch(3, -1, 0, 1, 2);
        x.patch(3, -1, 0, -1, -1);
        r.due(NONE, x.apply());
        r.due(0, x.count(7));
    }

    private void applyFull() {
        r.says("NONE: there is no PATCH; FULL: OLD would have more than 40 GATES.");
        int[][] rows = {{0, 1}, {255, 1}, {0xAA, 0}, {0x55, 1}, {150, 2}, {105, 3}, {22, 4}};
        for (int[] row : rows) {
            for (int room = 0; room <= 5; room++) {
                GatePatch x = Nets.zeroTo(row[0]);
                for (int g = 1; g < 40 - room; g++) x.gate(0, ZERO, -1, -1, -1);
                x.patch(3, -1, 0, 1, 2);
                r.due(row[1] > room ? FULL : row[1], x.apply());
                r.due(row[1] > room ? 40 - room : 40 - room + row[1], x.count(3));
                r.due(row[1] > room ? 3 : NONE, x.patched(2));
                r.due(row[1] > room && row[0] > 0 ? 1 : 0, x.differ() == SAME ? 0 : 1);
            }
        }
        // of two POINTS the GATES of both count, leaves ZERO and ONE too
        int[][] pairs = {{22, 232, 8}, {0, 255, 2}, {0xCC, 0xAA, 0}, {0x88, 0, 2}, {255, 0x88, 2}, {0x55, 0xAA, 1}};
        for (int[] pair : pairs) {
            for (int gates = 40 - pair[2]; gates <= Math.min(40, 41 - pair[2]); gates++) {
                GatePatch x = Nets.zerosTo(pair[0], pair[1]);
                for (int g = 2; g < gates; g++) x.gate(0, ZERO, -1, -1, -1);
                x.patch(3, 4, 0, 1, 2);
                r.due(gates + pair[2] > 40 ? FULL : pair[2], x.apply());
                r.due(gates + pair[2] > 40 ? gates : 40, x.count(3));
            }
        }
    }

    private void undo() {
        r.says("The last APPLYING that can be undone is undone: how many still can. NONE: none can.");
        GatePatch x = Nets.zeroTo(0x88);
        r.due(NONE, x.undo());
        x.mark(3, 1);
        int wish = x.gate(1, NOT, 0, -1, -1);
        int was = x.out(1, 0, wish);
        x.out(1, 0, was);
        for (int i = 0; i < 6; i++) {
            r.due(1, x.patch(3 + i, -1, 0, 1, -1));
            r.due(1, x.apply());
            x.out(1, 0, i % 2 == 0 ? wish : was);
        }
        for (int i = 6; i > 2; i--) {
            r.due(i - 3, x.undo());
            r.due(i, x.count(3));
            r.due(i - 3, x.count(7));
            r.due(i == 2 ? 0 : i % 2 == 0 ? 0x55 : 0x88, x.row(0, 1 + i, 0));
        }
        r.due(NONE, x.undo());
        r.due(3, x.count(3));
        undoneFunctions();
        // behind an undo() others can be APPLIED, and undone
        r.due(1, x.patch(5, -1, 0, 1, -1));
        r.due(1, x.apply());
        r.due(0, x.undo());
        r.due(NONE, x.undo());
        r.due(5, x.out(0, 0, 0));
    }

    /** A GATE behind the POINT does again what it did, and ARRIVES and HANGS as it did. */
    private void undoneFunctions() {
        GatePatch x = Nets.andTo(OR);
        x.gate(0, NOT, 2, -1, -1);
        x.delay(OR, 5);
        r.due(7, x.row(0, 3, 0));
        r.due(1, x.patch(2, -1, 0, 1, -1));
        r.due(1, x.apply());
        r.due(1, x.row(0, 3, 0));
        r.due(6, x.arrive(0, 3));
        r.due(0, x.hangs(0, 3, 2));
        r.due(0, x.undo());
        r.due(7, x.row(0, 3, 0));
        r.due(2, x.arrive(0, 3));
        r.due(1, x.hangs(0, 3, 2));
        r.due(1, x.differ());
        // the same by back()
        x.image(0);
        x.rewire(0, 3, 0, 1);
        r.due(3, x.row(0, 3, 0));
        r.due(2, x.back(0));
        r.due(7, x.row(0, 3, 0));
        r.due(1, x.hangs(0, 3, 2));
    }

    private void undoNone() {
        r.says("(begin(), back() and changes of OLD by gate(), rewire(), out(), next() and site(), and spare(), make that none can.)");
        for (int way = 0; way < 26; way++) {
            GatePatch x = new GatePatch();
            x.begin(2, 1, 1);
            for (int net = 0; net < 2; net++) {
                x.gate(net, AND + net, 0, 1, -1);
                x.out(net, 0, 3);
            }
            x.image(0);
            for (int i = 0; i < 2; i++) {
                x.patch(3 + i, -1, 0, 1, -1);
                x.apply();
                x.rewire(1, 3, 0, 2 * i);
            }
            r.due(2, x.count(7));
            switch (way) {
                case 0: x.gate(0, ZERO, -1, -1, -1); break;
                case 1: x.rewire(0, 3, 0, 2); break;
                case 2: x.out(0, 0, 0); break;
                case 3: x.next(0, 0, 1); break;
                case 4: x.site(0, 1, 1); break;
                case 5: x.spare(0, 1, 1); break;
                case 6: x.back(0); break;
                case 7: x.begin(2, 1, 1); break;
                case 8: x.gate(1, ZERO, -1, -1, -1); break;
                case 9: x.rewire(1, 3, 0, 1); break;
                case 10: x.out(1, 0, 0); break;
                case 11: x.next(1, 0, 1); break;
                case 12: x.free(0); break;
                case 13: x.delay(AND, 3); break;
                case 14: x.mark(0, 3); break;
                case 15: x.image(0); break;
                case 16: x.patch(3, -1, 0, 1, -1); break;
                case 17: x.best(3); x.points(3); x.place(); break;
                case 18: x.gate(0, ZERO, 0, -1, -1); break;
                case 19: x.rewire(0, 3, 2, 0); x.rewire(0, 3, 0, 3); break;
                case 20: x.out(0, 1, 0); x.next(0, 1, 0); break;
                case 21: x.site(9, 0, 0); x.spare(6, 0, 0); break;
                case 22: x.back(1); x.back(6); break;
                case 23: x.begin(2, 7, 1); break;
                case 24: x.clear(0); x.tape(0, 1, 1); x.back(0); x.toss(0); break;
                default: x.witness(1, 3, 4, -1); x.judge(1, 3, 4, -1); x.copy(1, 0, 1, 1, 2); break;
            }
            r.due(way < 8 ? 0 : 2, x.count(7));
            r.due(way < 8 ? NONE : 1, x.undo());
            r.due(way < 8 ? NONE : 0, x.undo());
            r.due(NONE, x.undo());
            if (way >= 8) r.due(1, x.count(3));
            if (way >= 8) r.due(0x88, x.row(0, 3, 0));
        }
    }

    private void change() {
        r.says("Of the i-th CHANGE of the last APPLYING since begin(): what 0 0 for a PIN, 1 an output, 2 a NEXT; 1 the GATE, output or store; 2 the PIN (0 for others). NONE: there is none, no such what.");
        GatePatch x = new GatePatch();
        x.begin(1, 2, 2);
        x.gate(0, ZERO, -1, -1, -1);
        x.gate(0, MUX, 0, 0, 3);
        x.out(0, 1, 3);
        x.next(0, 1, 3);
        r.due(NONE, x.change(0, 0));
        r.due(0, x.patch(3, -1, 0, -1, -1));
        r.due(NONE, x.change(0, 0));
        r.due(0, x.apply());
        int[][] due = {{0, 4, 2}, {1, 1, 0}, {2, 1, 0}};
        for (int again = 0; again < 2; again++) {
            r.due(3, x.count(8));
            for (int i = 0; i < 3; i++) for (int what = 0; what < 3; what++) r.due(due[i][what], x.change(i, what));
            r.due(NONE, x.change(3, 0));
            for (int wild : WILD) {
                r.due(NONE, x.change(wild, 0));
                r.due(NONE, x.change(0, wild));
            }
            r.due(NONE, x.change(0, 3));
            // undone, it is still the last one; so it is when another PATCH is kept, or can't be APPLIED
            r.due(again == 0 ? 0 : NONE, x.undo());
            x.patch(3, -1, 0, -1, -1);
        }
        // the next APPLYING, and one that changes nothing, as nothing is on its POINT
        r.due(0, x.apply());
        r.due(3, x.count(8));
        x.gate(0, ONE, -1, -1, -1);
        r.due(0, x.patch(5, -1, 0, -1, -1));
        r.due(1, x.apply());
        r.due(0, x.count(8));
        r.due(NONE, x.change(0, 0));
        x.out(0, 0, 3);
        r.due(0, x.patch(3, -1, 0, -1, -1));
        r.due(0, x.apply());
        r.due(1, x.count(8));
        r.due(1, x.change(0, 0));
        r.due(0, x.change(0, 1));
        r.due(NONE, x.change(1, 0));
        r.due(NONE, x.begin(0, 0, 0));
        r.due(1, x.count(8));
        x.begin(1, 2, 2);
        r.due(0, x.count(8));
        r.due(NONE, x.change(0, 0));
    }

    private void test() {
        r.says("The i-th TEST of the last APPLYING since begin() (by the FREE of then). NONE: there is none.");
        GatePatch x = Nets.zeroTo(0xE9);
        r.due(NONE, x.test(0));
        x.free(3);
        x.free(5);
        x.free(0);
        x.free(0);
        r.due(1, Math.min(1, x.patch(3, -1, 0, 1, 2)));
        r.due(0xC1, x.function(0) & 0xD7);
        x.apply();
        // it was 0 everywhere and is 1 at 0, 6 and 7, whatever it is at 3 and 5, which are FREE
        int[] due = {0, 6, 7};
        for (int again = 0; again < 3; again++) {
            r.due(3, x.count(9));
            for (int i = 0; i < 4; i++) r.due(i < 3 ? due[i] : NONE, x.test(i));
            for (int wild : WILD) r.due(NONE, x.test(wild));
            x.free(again * 3);
            if (again == 1) x.undo();
        }
        r.due(0, x.test(0));
        x.begin(3, 0, 1);
        r.due(NONE, x.test(0));
        r.due(0, x.count(9));
    }

    private void idle() {
        r.says("How many GATES of a NET none of its OBSERVED HANGS on. NONE: no such NET.");
        for (int net = 0; net < 2; net++) {
            GatePatch x = new GatePatch();
            x.begin(6, 2, 4);
            r.due(0, x.idle(net));
            int most = net == 0 ? 40 : 24;
            for (int g = 8; g < 8 + most; g++) x.gate(net, NOT, g == 8 ? 0 : g - 1, -1, -1);
            r.due(most, x.idle(net));
            r.due(0, x.idle(1 - net));
            for (int k = 0; k < 6; k++) {
                if (k < 4) x.out(net, k, 8 + 3 * k); else x.next(net, k - 4, 8 + 3 * k);
                r.due(most - 1 - 3 * k, x.idle(net));
            }
            x.next(net, 1, 7 + most);
            r.due(0, x.idle(net));
            x.rewire(net, 7 + most, 0, 0);
            r.due(most - 14, x.idle(net));
            for (int wild : WILD) r.due(NONE, x.idle(wild));
            r.due(NONE, x.idle(2));
        }
    }

    // ---- 39 to 47 ----

    private void tape() {
        r.says("TAPE d gets a row of n elements, all 0, of a sort (1 .. 4): n.");
        GatePatch x = new GatePatch();
        for (int d = 0; d < 6; d++) {
            for (int sort = 1; sort < 5; sort++) {
                r.due(256, x.tape(d, sort, 256));
                r.due(1, x.put(d, 255, 7));
                r.due(1, x.put(d, 0, 7));
                r.due(256, x.tape(d, sort, 256));
                r.due(0, x.at(d, 255) + x.at(d, 0));
                r.due(0, x.tape(d, sort, 0));
                r.due(2, Nets.atThrows(x, d, 0));
                r.due(1, x.tape(d, 5 - sort, 1));
                r.due(0, x.at(d, 0));
                r.due(2, Nets.atThrows(x, d, 1));
                r.due(5 - sort, x.clear(d));
            }
        }
        r.says("NONE: no such TAPE, sort, n above 256; SIZE.");
        x = new GatePatch();
        for (int wild : WILD) {
            r.due(NONE, x.tape(wild, 1, 1));
            r.due(NONE, x.tape(0, wild, 1));
            r.due(wild < 0 ? SIZE : NONE, x.tape(0, 1, wild));
        }
        r.due(NONE, x.tape(6, 1, 1));
        r.due(NONE, x.tape(0, 0, 1));
        r.due(NONE, x.tape(0, 5, 1));
        r.due(NONE, x.tape(0, 1, 257));
        r.due(4, x.count(10));
        r.due(0, x.clear(0));
    }

    private void image() {
        r.says("TAPE d gets an IMAGE of OLD: how many GATES it has. NONE: no such TAPE.");
        GatePatch x = new GatePatch();
        for (int d = 0; d < 6; d++) {
            r.due(d, x.image(d));
            r.due(3 + d, x.gate(0, ZERO, -1, -1, -1));
        }
        for (int d = 1; d < 6; d++) r.due(d, x.toss(d));
        r.due(6, x.image(0));
        for (int wild : WILD) r.due(NONE, x.image(wild));
        r.due(NONE, x.image(6));
        for (int g = 6; g < 40; g++) x.gate(0, ZERO, -1, -1, -1);
        r.due(40, x.image(1));
        // it takes the place of a row, and a row that of it
        x.tape(2, 1, 9);
        x.image(2);
        r.due(2, Nets.atThrows(x, 2, 0));
        r.due(40, x.toss(2));
        x.tape(2, 1, 9);
        r.due(0, x.at(2, 8));
        r.due(CAST, x.toss(2));
    }

    private void back() {
        r.says("OLD becomes as the IMAGE on TAPE d: how many GATES it has. (MARKS of WIRES that are no more are gone.)");
        GatePatch x = Nets.andTo(OR);
        x.image(0);
        x.site(2, 4, 4);
        x.gate(0, NOT, 2, -1, -1);
        x.out(0, 0, 3);
        x.image(1);
        x.mark(3, 1);
        x.mark(1, 1);
        r.due(1, x.back(0));
        r.due(1, x.mark(0, -1));
        r.due(0x8, x.row(0, 2, 0));
        r.due(NONE, x.value(0, 3, 0));
        r.due(1, x.differ());
        r.due(0, x.idle(0));
        r.due(2, x.out(0, 0, 2));
        r.due(0, x.site(2, 0, 0));
        r.due(2, x.back(1));
        r.due(0x7, x.row(0, 3, 0));
        r.due(0, x.differ());
        r.due(132, x.site(2, 0, 0));
        r.due(4, x.gate(0, NOT, 0, -1, -1));
        r.due(0, x.mark(1, -1));
        r.due(0, x.mark(3, -1));
        // to one of no GATES at all
        x.begin(2, 0, 1);
        x.image(0);
        x.gate(0, ONE, -1, -1, -1);
        x.out(0, 0, 2);
        r.due(0, x.back(0));
        r.due(0, x.count(3));
        r.due(0, x.out(0, 0, 0));
        r.says("NONE: no such TAPE; NOTHING; CAST; UNABLE: the IMAGE was made with other inputs, stores or outputs.");
        for (int wild : WILD) r.due(NONE, x.back(wild));
        r.due(NONE, x.back(6));
        r.due(NOTHING, x.back(5));
        for (int sort = 1; sort < 5; sort++) {
            x.tape(5, sort, 4);
            r.due(CAST, x.back(5));
        }
        x.begin(3, 1, 2);
        x.image(3);
        int[][] others = {{2, 1, 2}, {4, 1, 2}, {3, 0, 2}, {3, 2, 2}, {3, 1, 1}, {3, 1, 3}, {4, 0, 2}, {2, 2, 2}};
        for (int[] o : others) {
            x.begin(o[0], o[1], o[2]);
            r.due(UNABLE, x.back(3));
        }
        x.begin(3, 1, 2);
        r.due(0, x.back(3));
        r.due(0, x.count(10));
    }

    private void toss() {
        r.says("The failure of the IMAGE on TAPE d is thrown, and caught: how many GATES it has. NONE: no such TAPE; NOTHING; CAST; THROWN: one without GATES has none.");
        GatePatch x = new GatePatch();
        for (int wild : WILD) r.due(NONE, x.toss(wild));
        r.due(NONE, x.toss(6));
        for (int d = 0; d < 6; d++) r.due(NOTHING, x.toss(d));
        for (int sort = 1; sort < 5; sort++) {
            x.tape(sort, sort, sort);
            r.due(CAST, x.toss(sort));
        }
        x.image(0);
        r.due(THROWN, x.toss(0));
        r.due(THROWN, x.toss(0));
        r.due(12, x.count(10));
        x.gate(0, ZERO, -1, -1, -1);
        r.due(THROWN, x.toss(0));
        x.image(0);
        r.due(1, x.toss(0));
        for (int g = 1; g < 40; g++) x.gate(0, ZERO, -1, -1, -1);
        r.due(1, x.toss(0));
        x.image(5);
        r.due(40, x.toss(5));
        x.begin(1, 0, 1);
        r.due(40, x.toss(5));
        r.due(0, x.count(3));
        r.due(0, x.count(10));
    }

    private void clear() {
        r.says("TAPE d holds nothing: what it held (0 nothing, 1 .. 5). NONE: no such TAPE.");
        GatePatch x = new GatePatch();
        for (int d = 0; d < 6; d++) {
            for (int sort = 0; sort < 6; sort++) {
                if (sort == 5) x.image(d); else if (sort > 0) x.tape(d, sort, sort - 1);
                r.due(sort, x.clear(d));
                r.due(0, x.clear(d));
                r.due(NOTHING, x.toss(d));
                r.due(2, Nets.atThrows(x, d, 0));
            }
        }
        for (int wild : WILD) r.due(NONE, x.clear(wild));
        r.due(NONE, x.clear(6));
    }

    private void put() {
        r.says("Element i of the row on TAPE d becomes v, narrowed to its sort: 1. NONE: no such TAPE; NOTHING; CAST; PLACE.");
        GatePatch x = new GatePatch();
        for (int sort = 1; sort < 5; sort++) {
            int bits = 4 << sort;
            x.tape(sort, sort, 3);
            for (long v : new long[] {0, 1, -1, Long.MIN_VALUE, Long.MAX_VALUE, 1L << bits - 1, (1L << bits - 1) - 1, -(1L << bits - 1), -(1L << bits - 1) - 1}) {
                r.due(1, x.put(sort, 1, v));
                r.due(v << 64 - bits >> 64 - bits, x.at(sort, 1));
                r.due(0, x.at(sort, 0) + x.at(sort, 2));
            }
            for (int wild : WILD) r.due(PLACE, x.put(sort, wild, 0));
            r.due(PLACE, x.put(sort, 3, 0));
        }
        for (int wild : WILD) r.due(NONE, x.put(wild, 0, 0));
        r.due(NONE, x.put(6, 0, 0));
        r.due(NOTHING, x.put(0, 0, 0));
        x.image(5);
        r.due(CAST, x.put(5, 0, 0));
        x.tape(0, 4, 0);
        r.due(PLACE, x.put(0, 0, 0));
        x.tape(0, 1, 256);
        r.due(1, x.put(0, 255, 9));
        r.due(PLACE, x.put(0, 256, 9));
        r.due(4 * 7 + 4, x.count(10));
    }

    private void at() {
        r.says("Element i of the row on TAPE d. IllegalArgumentException: no such TAPE; IllegalStateException: it holds no row, or that has no such place.");
        GatePatch x = new GatePatch();
        for (int wild : WILD) r.due(1, Nets.atThrows(x, wild, 0));
        r.due(1, Nets.atThrows(x, 6, 0));
        for (int d = 0; d < 6; d++) r.due(2, Nets.atThrows(x, d, 0));
        x.image(0);
        r.due(2, Nets.atThrows(x, 0, 0));
        for (int sort = 1; sort < 5; sort++) {
            for (int n : new int[] {0, 1, 256}) {
                x.tape(sort, sort, n);
                if (n > 0) x.put(sort, n - 1, -sort);
                r.due(n > 0 ? 0 : 2, Nets.atThrows(x, sort, n - 1));
                if (n > 0) r.due(-sort, x.at(sort, n - 1));
                r.due(2, Nets.atThrows(x, sort, n));
                for (int wild : WILD) r.due(2, Nets.atThrows(x, sort, wild));
            }
        }
        r.due(0, x.count(10));
    }

    private void copy() {
        r.says("n elements of the row on TAPE d from place i on go to the row on TAPE e from place j on (as they all were before): n.");
        GatePatch x = new GatePatch();
        x.tape(0, 2, 10);
        x.tape(1, 2, 7);
        for (int i = 0; i < 10; i++) x.put(0, i, 10 + i);
        r.due(7, x.copy(0, 3, 1, 0, 7));
        for (int i = 0; i < 7; i++) r.due(13 + i, x.at(1, i));
        r.due(1, x.copy(0, 9, 1, 6, 1));
        r.due(19, x.at(1, 6));
        r.due(0, x.copy(0, 10, 1, 7, 0));
        r.due(0, x.copy(0, 0, 1, 0, 0));
        r.due(9, x.copy(0, 0, 0, 1, 9));
        for (int i = 0; i < 10; i++) r.due(i == 0 ? 10 : 9 + i, x.at(0, i));
        r.due(8, x.copy(0, 2, 0, 0, 8));
        for (int i = 0; i < 10; i++) r.due(i < 8 ? 11 + i : 9 + i, x.at(0, i));
        r.due(10, x.copy(0, 0, 0, 0, 10));
        for (int i = 0; i < 10; i++) r.due(i < 8 ? 11 + i : 9 + i, x.at(0, i));
        x.tape(2, 4, 256);
        x.put(2, 255, Long.MIN_VALUE);
        x.tape(3, 4, 256);
        r.due(256, x.copy(2, 0, 3, 0, 256));
        r.due(Long.MIN_VALUE, x.at(3, 255));
        r.says("NONE: no such TAPE; NOTHING: of either; CAST: one is no row, or they are of two sorts; PLACE: n, i or j is below 0, or a row has not so many.");
        for (int wild : WILD) {
            r.due(NONE, x.copy(wild, 0, 0, 0, 0));
            r.due(NONE, x.copy(0, 0, wild, 0, 0));
            r.due(PLACE, x.copy(0, wild, 1, 0, 0));
            r.due(PLACE, x.copy(0, 0, 1, wild, 0));
            r.due(PLACE, x.copy(0, 0, 1, 0, wild));
            for (int n : WILD) {
                r.due(PLACE, x.copy(0, wild, 1, 0, n));
                r.due(PLACE, x.copy(0, 0, 1, wild, n));
                r.due(PLACE, x.copy(0, wild, 0, wild, n));
            }
        }
        x.image(4);
        r.due(NONE, x.copy(6, 0, 0, 0, 0));
        r.due(NONE, x.copy(0, 0, 6, 0, 0));
        r.due(NOTHING, x.copy(5, 0, 0, 0, 0));
        r.due(NOTHING, x.copy(0, 0, 5, 0, 0));
        r.due(NOTHING, x.copy(5, 0, 5, 0, 0));
        for (int d = 0; d < 5; d++) {
            for (int e = 0; e < 5; e++) {
                boolean pair = d != 4 && e != 4 && d / 2 == e / 2;
                r.due(pair ? 0 : CAST, x.copy(d, 0, e, 0, 0));
            }
        }
        r.due(PLACE, x.copy(0, 0, 1, 0, 8));
        r.due(PLACE, x.copy(1, 0, 0, 0, 8));
        r.due(PLACE, x.copy(0, 4, 1, 0, 7));
        r.due(PLACE, x.copy(0, 0, 1, 1, 7));
        r.due(PLACE, x.copy(0, 11, 1, 0, 0));
        r.due(PLACE, x.copy(0, 0, 1, 8, 0));
        r.due(13, x.at(1, 0));
    }

    private void count() {
        r.says("0 inputs, 1 stores, 2 outputs, 3 GATES of OLD, 4 of WISH, 5 FREE CASES, 6 SPARES, 7 APPLYINGS that can be undone, 8 CHANGES and 9 TESTS of the last APPLYING since begin(), 10 refusals of the host's (-11 to -15) since begin(). NONE for another what.");
        GatePatch x = new GatePatch();
        x.begin(4, 2, 3);
        for (int g = 0; g < 5; g++) x.gate(0, AND, 0, 1, -1);
        for (int g = 0; g < 7; g++) x.gate(1, OR, 0, 1, -1);
        for (int k = 0; k < 9; k++) x.free(k);
        for (int s = 0; s < 11; s++) x.spare(AND, 0, 0);
        x.out(0, 2, 6);
        x.out(1, 2, 6);
        x.patch(6, -1, 0, 1, -1);
        x.apply();
        for (int n = 0; n < 13; n++) x.clear(n % 6);
        for (int n = 0; n < 12; n++) x.toss(n % 6);
        // AND and OR differ at two of four CASES, and 9 .. 63 are left: 9 and 10, 13 and 14, ..
        int[] due = {4, 2, 3, 6, 7, 9, 11, 1, 1, 28, 12};
        for (int what = 0; what < due.length; what++) r.due(due[what], x.count(what));
        for (int wild : WILD) r.due(NONE, x.count(wild));
        r.due(NONE, x.count(11));
        r.due(NONE, x.begin(0, 0, 0));
        for (int what = 0; what < due.length; what++) r.due(due[what], x.count(what));
        x.begin(8, 0, 4);
        for (int what = 0; what < 11; what++) r.due(what == 0 ? 8 : what == 2 ? 4 : 0, x.count(what));
    }
}
