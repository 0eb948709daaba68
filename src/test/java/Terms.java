import java.util.ArrayList;
import java.util.List;

/** The sentences ahead of the first promise, I to VI. Answers were worked out by hand or by short sums here. */
final class Terms {
    private static final int NONE = -1, RING = -2, FULL = -3, UNABLE = -4, SPARE = -5, SAME = 1000;
    private static final int NOTHING = -11, CAST = -12, PLACE = -13, SIZE = -14, THROWN = -15;
    private static final int NOT = 0, AND = 1, OR = 2, XOR = 3, NAND = 4, NOR = 5, MUX = 6, ZERO = 7, ONE = 8;
    private static final int[] PINS = {1, 2, 2, 2, 2, 2, 3, 0, 0};

    private final Rows r;

    Terms(Rows rows) { r = rows; }

    void all() {
        netNumbers(); shapes(); wires(); atFirst(); observed(); kinds(); pins(); hangs(); rings(); cases(); frees(); functions();
        differ(); points(); mends(); mendsByKind(); mendsMany(); enough();
        tolds(); pattern(); allowed(); clash(); clashParts(); numbers(); costs(); trees(); choice(); nodes();
        places(); spares(); length(); placing(); placingMany(); ticks();
        applied(); leaves(); newWires(); changes(); tests(); undoing(); dropped();
        tapes(); refusals();
    }

    // ---- I ----

    private void netNumbers() {
        r.says("I. NETS: 0 OLD, 1 WISH.");
        for (int net : new int[] {-1, 2, Integer.MIN_VALUE, Integer.MAX_VALUE}) {
            GatePatch x = new GatePatch();
            x.begin(2, 1, 1);
            for (int n = 0; n < 2; n++) x.gate(n, NOT, 0, -1, -1);
            r.due(NONE, x.gate(net, NOT, 0, -1, -1));
            r.due(NONE, x.rewire(net, 3, 0, 0));
            r.due(NONE, x.out(net, 0, 0));
            r.due(NONE, x.next(net, 0, 0));
            r.due(NONE, x.value(net, 0, 0));
            r.due(1, Nets.rowThrows(x, net, 0, 0));
            r.due(NONE, x.hangs(net, 0, 0));
            r.due(NONE, x.arrive(net, 0));
            r.due(NONE, x.idle(net));
        }
        GatePatch x = new GatePatch();
        x.gate(0, ZERO, -1, -1, -1);
        x.gate(1, ONE, -1, -1, -1);
        x.gate(1, ONE, -1, -1, -1);
        r.due(1, x.count(3));
        r.due(2, x.count(4));
        r.due(0, x.value(0, 3, 0));
        r.due(1, x.value(1, 3, 0));
    }

    private void shapes() {
        r.says("Both have I inputs, S stores and O outputs (I + S from 1 to 8, S 0 .. 2, O 1 .. 4;");
        for (int i = -1; i <= 9; i++) {
            GatePatch x = new GatePatch();
            int[] last = {3, 0, 1};
            for (int s = -1; s <= 3; s++) {
                for (int o = 0; o <= 5; o++) {
                    boolean fits = i >= 0 && s >= 0 && s <= 2 && i + s >= 1 && i + s <= 8 && o >= 1 && o <= 4;
                    r.due(fits ? 1 << i + s : NONE, x.begin(i, s, o));
                    if (fits) last = new int[] {i, s, o};
                    for (int what = 0; what < 3; what++) r.due(last[what], x.count(what));
                }
            }
        }
        for (int net = 0; net < 2; net++) {
            GatePatch x = new GatePatch();
            x.begin(2, 2, 3);
            r.due(0, x.out(net, 2, 0));
            r.due(NONE, x.out(net, 3, 0));
            r.due(0, x.next(net, 1, 0));
            r.due(NONE, x.next(net, 2, 0));
            r.due(0, x.value(net, 3, 0));
            r.due(NONE, x.value(net, 4, 0));
        }
        r.says("3, 0 and 1 at first).");
        GatePatch x = new GatePatch();
        r.due(3, x.count(0));
        r.due(0, x.count(1));
        r.due(1, x.count(2));
        r.due(NONE, x.next(0, 0, 0));
        r.due(NONE, x.out(1, 1, 0));
        r.due(3, x.gate(1, ZERO, -1, -1, -1));
    }

    private void wires() {
        r.says("WIRES of a net: 0 .. I - 1 the inputs, I .. I + S - 1 the stores, then its GATES, numbered on as they are made (OLD has 40 at most, WISH 24).");
        for (int sources = 1; sources <= 8; sources += 7) {
            for (int net = 0; net < 2; net++) {
                GatePatch x = new GatePatch();
                int stores = sources == 1 ? 1 : 2;
                x.begin(sources - stores, stores, 1);
                int most = net == 0 ? 40 : 24;
                for (int g = 0; g < most; g++) r.due(sources + g, x.gate(net, NOT, sources + g - 1, -1, -1));
                r.due(FULL, x.gate(net, NOT, 0, -1, -1));
                r.due(most, x.count(3 + net));
                r.due(0, x.count(4 - net));
                int last = sources + most - 1;
                for (int w = sources - 1; w <= last; w++) r.due(1, x.hangs(net, last, w));
                r.due(NONE, x.hangs(net, last + 1, 0));
                // so many NOTS, an even number, are the last of the sources again
                for (int part = 0; part < 4; part++) r.due(x.row(net, sources - 1, part), x.row(net, last, part));
                r.due(most, x.arrive(net, last));
                r.due(0, x.out(net, 0, last));
                r.due(NONE, x.out(net, 0, last + 1));
                r.due(0, x.idle(net));
            }
        }
    }

    private void atFirst() {
        r.says("Each output of a net is one of its WIRES, and so is the NEXT of each of its stores (all are WIRE 0 at first).");
        GatePatch x = new GatePatch();
        r.due(0, x.out(0, 0, 2));
        r.due(0, x.out(1, 0, 1));
        for (int again = 0; again < 2; again++) {
            for (int stores = 0; stores <= 2; stores++) {
                x.begin(2, stores, 4);
                for (int net = 0; net < 2; net++) {
                    for (int o = 0; o < 4; o++) r.due(0, x.out(net, o, 1));
                    for (int s = 0; s < stores; s++) r.due(0, x.next(net, s, 1));
                    r.due(NONE, x.out(net, 0, 2 + stores));
                    r.due(1, x.out(net, 3, 1));
                }
            }
        }
    }

    private void observed() {
        r.says("The OBSERVED of a net, in order: its outputs, then the NEXTs of its stores.");
        for (int k = 0; k < 6; k++) {
            GatePatch x = new GatePatch();
            x.begin(6, 2, 4);
            x.gate(0, ONE, -1, -1, -1);
            r.due(SAME, x.differ());
            r.due(1, x.idle(0));
            r.due(0, x.late(0));
            if (k < 4) x.out(0, k, 8); else x.next(0, k - 4, 8);
            r.due(0, x.differ());
            r.due(0, x.idle(0));
            r.due(1, x.late(0));
            r.due(0, x.mend(8, -1, -1, 0));
            r.due(1, x.mend(8, -1, -1, 1));
            r.due(SAME, x.enough(8, -1, -1));
            r.due(1, x.points(1));
            r.due(0, x.patch(8, -1, 0, -1, -1));
            r.due(0, x.apply());
            r.due(1, x.count(8));
            r.due(k < 4 ? 1 : 2, x.change(0, 0));
            r.due(k < 4 ? k : k - 4, x.change(0, 1));
            r.due(128, x.count(9));
        }
        // all six, of full nets of the greatest shape
        GatePatch x = new GatePatch();
        x.begin(6, 2, 4);
        for (int g = 0; g < 40; g++) x.gate(0, NAND, 7 + g, g % 8, -1);
        for (int g = 0; g < 24; g++) x.gate(1, NAND, 7 + g, g % 8, -1);
        for (int k = 0; k < 6; k++) {
            for (int net = 0; net < 2; net++) {
                int wire = (net == 0 ? 47 : 31) - k;
                if (k < 4) x.out(net, k, wire); else x.next(net, k - 4, wire);
            }
        }
        r.due(6, x.late(34));
        r.due(5, x.late(35));
        r.due(0, x.late(40));
        r.due(0, x.idle(0));
        r.due(0, x.idle(1));
        r.due(35, x.arrive(0, 42));
        int least = SAME;
        for (int k = 255; k >= 0; k--) {
            for (int w = 0; w < 6; w++) if (full(k, 47 - w) != full(k, 31 - w)) least = k;
        }
        r.due(least, x.differ());
    }

    /** The value of a WIRE of the full nets in observed(). */
    private static int full(int kase, int wire) {
        int v = kase >> 7 & 1;
        for (int w = 8; w <= wire; w++) v = 1 - (v & kase >> (w - 8) % 8 & 1);
        return wire < 8 ? kase >> wire & 1 : v;
    }

    private static int kind(int kind, int a, int b, int c) {
        switch (kind) {
            case NOT: return 1 - a;
            case AND: return a * b;
            case OR: return a + b > 0 ? 1 : 0;
            case XOR: return (a + b) % 2;
            case NAND: return 1 - a * b;
            case NOR: return a + b > 0 ? 0 : 1;
            case MUX: return a == 1 ? b : c;
            default: return kind - ZERO;
        }
    }

    private static int pin(int gateKind, int pin, int wire) { return pin < PINS[gateKind] ? wire : -1; }

    private void kinds() {
        r.says("GATES: KIND 0 NOT, 1 AND, 2 OR, 3 XOR, 4 NAND, 5 NOR, 6 MUX, 7 ZERO, 8 ONE;");
        for (int net = 0; net < 2; net++) {
            GatePatch x = new GatePatch();
            for (int k = 0; k < 9; k++) {
                int g = x.gate(net, k, pin(k, 0, 2), pin(k, 1, 0), pin(k, 2, 1));
                r.due(3 + k, g);
                for (int q = 0; q < 8; q++) r.due(kind(k, q >> 2, q & 1, q >> 1 & 1), x.value(net, g, q));
            }
            r.due(NONE, x.gate(net, -1, -1, -1, -1));
            r.due(NONE, x.gate(net, 9, -1, -1, -1));
            r.due(NONE, x.gate(net, 9, 0, 0, 0));
        }
    }

    private void pins() {
        r.says("PINS a, b, c (0, 1, 2), as many as it has: NOT a; 1 to 5 a, b; MUX a, b, c (b if a is 1, else c); ZERO, ONE none.");
        for (int net = 0; net < 2; net++) {
            for (int k = 0; k < 9; k++) {
                GatePatch x = new GatePatch();
                // each PIN by itself: one that the KIND doesn't have must be -1, one that it has a WIRE
                for (int p = 0; p < 3; p++) {
                    for (int w : new int[] {-2, -1, 0, 2, 3}) {
                        int[] given = {pin(k, 0, 0), pin(k, 1, 1), pin(k, 2, 2)};
                        given[p] = w;
                        boolean fits = p < PINS[k] ? w >= 0 && w < x.count(3 + net) + 3 : w == -1;
                        int number = 3 + x.count(3 + net);
                        r.due(fits ? number : NONE, x.gate(net, k, given[0], given[1], given[2]));
                    }
                }
                int g = x.gate(net, k, pin(k, 0, 0), pin(k, 1, 1), pin(k, 2, 2));
                for (int p = -1; p < 4; p++) r.due(p >= 0 && p < PINS[k] ? p : NONE, x.rewire(net, g, p, 2));
                for (int p = 0; p < PINS[k]; p++) r.due(2, x.rewire(net, g, p, 0));
            }
        }
    }

    private void hangs() {
        r.says("A GATE HANGS on a WIRE if that is itself, or one of its PINS HANGS on it; inputs and stores HANG on themselves alone.");
        for (int net = 0; net < 2; net++) {
            GatePatch fresh = new GatePatch();
            r.due(1, fresh.hangs(net, 0, 0));
            GatePatch x = new GatePatch();
            x.begin(2, 2, 1);
            for (int p = 0; p < 3; p++) x.gate(net, MUX, p == 0 ? 3 + p : 1, p == 1 ? 3 + p : 1, p == 2 ? 3 + p : 1);
            x.next(net, 0, 6);
            x.next(net, 1, 4);
            x.out(net, 0, 5);
            // 4 = MUX(3, 1, 1), 5 = MUX(1, 4, 1), 6 = MUX(1, 1, 5)
            int[] on = {1, 2, 4, 8, 16 + 8 + 2, 32 + 16 + 8 + 2, 64 + 32 + 16 + 8 + 2};
            for (int w = 0; w < 7; w++) for (int o = 0; o < 7; o++) r.due(on[w] >> o & 1, x.hangs(net, w, o));
            // a WIRE that was a GATE is an input of another net
            x.begin(7, 0, 1);
            for (int w = 0; w < 7; w++) for (int o = 0; o < 7; o++) r.due(w == o ? 1 : 0, x.hangs(net, w, o));
        }
    }

    private void rings() {
        r.says("No GATE ever HANGS on another one that HANGS on it.");
        for (int p = 0; p < 3; p++) {
            int kind = p == 0 ? NOT : p == 1 ? OR : MUX;
            for (int net = 0; net < 2; net++) {
                GatePatch x = new GatePatch();
                for (int g = 3; g < 8; g++) x.gate(net, kind, pin(kind, 0, 0), pin(kind, 1, 0), pin(kind, 2, 0));
                // each GATE behind the one with the next number: 3 hangs on 4, that on 5 ..
                for (int g = 3; g < 7; g++) {
                    r.due(RING, x.rewire(net, g, p, g));
                    r.due(0, x.rewire(net, g, p, g + 1));
                    for (int h = 3; h <= g; h++) r.due(RING, x.rewire(net, g + 1, p, h));
                }
                r.due(0, x.rewire(net, 7, p, 2));
                for (int g = 3; g < 8; g++) {
                    for (int h = 3; h < 8; h++) r.due(h >= g ? 1 : 0, x.hangs(net, g, h));
                    r.due(1, x.hangs(net, g, 2));
                    r.due(8 - g, x.arrive(net, g));
                }
                // 7 is NOT x2; or x0 or x2; or MUX(x0, x0, x2): each GATE ahead does the same again
                int seven = p == 0 ? 0x0F : p == 1 ? 0xFA : 0xFA;
                r.due(seven, x.row(net, 7, 0));
                r.due(p == 0 ? 0x0F : 0xFA, x.row(net, 3, 0));
                r.due(p == 0 ? 0xF0 : 0xFA, x.row(net, 4, 0));
                r.due(RING, x.rewire(net, 7, p, 3));
                r.due(RING, x.rewire(net, 7, 0, 7));
            }
        }
    }

    private void cases() {
        r.says("A CASE is a number from 0 to 2^(I + S) - 1: its bit k is the value of WIRE k, for inputs and stores.");
        for (int sources = 1; sources <= 8; sources++) {
            GatePatch x = new GatePatch();
            int stores = sources % 3;
            int number = 1 << sources;
            r.due(number, x.begin(sources - Math.min(stores, sources), Math.min(stores, sources), 1));
            for (int w = 0; w < sources; w++) {
                for (int k : new int[] {0, 1 << w, number - 1 - (1 << w), number - 1, number / 2}) {
                    for (int net = 0; net < 2; net++) r.due(k >> w & 1, x.value(net, w, k));
                }
            }
            r.due(NONE, x.value(0, 0, number));
            r.due(NONE, x.value(0, 0, -1));
            r.due(NONE, x.free(number));
            r.due(NONE, x.free(-1));
            r.due(1, x.free(number - 1));
            r.due(1, x.free(0));
            r.due(2, x.count(5));
            x.gate(0, ZERO, -1, -1, -1);
            r.due(NONE, x.mend(sources, -1, -1, number));
            r.due(NONE, x.mend(sources, -1, -1, -1));
            r.due(0, x.mend(sources, -1, -1, number - 1));
        }
    }

    private void frees() {
        r.says("A CASE may be FREE (it can't come; none is at first).");
        GatePatch x = new GatePatch();
        r.due(0, x.count(5));
        for (int k = 0; k < 8; k++) r.due(1, x.free(k));
        r.due(8, x.count(5));
        x.begin(3, 0, 1);
        r.due(0, x.count(5));
        for (int k = 0; k < 8; k++) r.due(1, x.free(k));
        // all are FREE in 64 CASES too; their values are still told
        x.begin(6, 0, 1);
        r.due(0, x.count(5));
        x.gate(0, NOT, 5, -1, -1);
        x.out(0, 0, 6);
        for (int k = 0; k < 64; k++) r.due(1, x.free(k));
        r.due(64, x.count(5));
        r.due(SAME, x.differ());
        r.due(0xFFFFFFFFL, x.row(0, 6, 0));
        r.due(1, x.value(0, 6, 31));
        r.due(0, x.free(63));
        r.due(63, x.count(5));
        r.due(63, x.differ());
    }

    private void functions() {
        r.says("FUNCTION of a WIRE: its value at each CASE.");
        for (int sources = 5; sources <= 8; sources++) {
            GatePatch x = new GatePatch();
            x.begin(sources, 0, 1);
            x.gate(1, XOR, sources - 1, 0, -1);
            x.gate(1, MUX, 4, sources, 2);
            for (int part = 0; part < 4; part++) {
                long bits = 0;
                for (int k = 64 * part; k < 64 * part + 64; k++) {
                    int v = (k >> 4 & 1) == 1 ? k >> sources - 1 & 1 ^ k & 1 : k >> 2 & 1;
                    if (k < 1 << sources && v == 1) bits |= 1L << k % 64;
                }
                r.due(bits, x.row(1, sources + 1, part));
            }
            for (int k = 0; k < 1 << sources; k += 5) {
                r.due(x.row(1, sources + 1, k / 64) >> k % 64 & 1, x.value(1, sources + 1, k));
            }
            r.due(1, Nets.rowThrows(x, 1, 0, 4));
        }
    }

    // ---- II ----

    private void differ() {
        r.says("II. DIFFER: the least CASE, not FREE, at which an OBSERVED of OLD isn't that of WISH.");
        for (int sources = 1; sources <= 8; sources++) {
            GatePatch x = new GatePatch();
            x.begin(sources, 0, 1);
            x.gate(0, ZERO, -1, -1, -1);
            x.gate(1, ONE, -1, -1, -1);
            x.out(0, 0, sources);
            x.out(1, 0, sources);
            for (int k = 0; k < 1 << sources; k++) {
                if (sources < 8 || k % 64 > 61 || k % 64 < 2) r.due(k, x.differ());
                x.free(k);
            }
            r.due(SAME, x.differ());
            x.free((1 << sources) - 1);
            r.due((1 << sources) - 1, x.differ());
            x.out(1, 0, 0);
            r.due((1 << sources) - 1, x.differ());
            x.out(0, 0, 0);
            r.due(SAME, x.differ());
        }
    }

    private void points() {
        r.says("POINTS: 1 to 3 GATES of OLD, rising.");
        for (int a = -2; a <= 5; a++) {
            // WIRES 1, 2 and 3 are GATES of OLD; WISH has more of them
            GatePatch x = new GatePatch();
            x.begin(1, 0, 1);
            for (int g = 0; g < 3; g++) x.gate(0, NOT, g, -1, -1);
            for (int g = 0; g < 5; g++) x.gate(1, NOT, g, -1, -1);
            x.out(0, 0, 3);
            for (int b = -2; b <= 5; b++) {
                for (int c = -2; c <= 5; c++) {
                    boolean fits = a >= 1 && a <= 3
                        && (b == -1 ? c == -1 : b > a && b <= 3 && (c == -1 || c > b && c <= 3));
                    r.due(fits ? SAME : NONE, x.enough(a, b, c));
                    r.due(fits ? 0 : NONE, Math.min(0, x.mend(a, b, c, 0)));
                    r.due(fits ? 2 : NONE, x.witness(1, a, b, c));
                    if (!fits) r.due(NONE, x.judge(0, a, b, c));
                }
            }
        }
    }

    private void mends() {
        r.says("At a CASE an ASSIGNMENT (a number; its bit k is the value of the k-th POINT)");
        GatePatch x = new GatePatch();
        x.begin(3, 0, 4);
        for (int g = 3; g < 6; g++) x.gate(0, ONE, -1, -1, -1);
        for (int o = 0; o < 3; o++) {
            x.out(0, o, 3 + o);
            x.out(1, o, o);
        }
        for (int k = 0; k < 8; k++) r.due(k, x.mend(3, 4, 5, k));
        for (int k = 0; k < 8; k++) r.due((k & 4) == 4 ? k & 3 : UNABLE, x.mend(3, 4, -1, k));
        for (int k = 0; k < 8; k++) r.due((k & 2) == 2 ? k & 1 | k >> 1 & 2 : UNABLE, x.mend(3, 5, -1, k));
        for (int k = 0; k < 8; k++) r.due((k & 3) == 3 ? k >> 2 : UNABLE, x.mend(5, -1, -1, k));
        r.due(8, x.witness(0, 3, 4, 5));
        for (int k = 0; k < 8; k++) r.due(k, x.at(0, k));
        // one that is no more than a number too great, or below 0, is none
        r.due(SAME, x.judge(0, 3, 4, 5));
        x.put(0, 6, 8 + 6);
        r.due(6, x.judge(0, 3, 4, 5));
        r.says("MENDS it if, with the POINTS having these values whatever their PINS say, every OBSERVED of OLD is that of WISH.");
        // 4 is NOT of 3; as POINTS both have their own values
        x = new GatePatch();
        x.begin(1, 1, 2);
        x.gate(0, NOT, 0, -1, -1);
        x.gate(0, NOT, 2, -1, -1);
        x.out(0, 0, 2);
        x.out(0, 1, 3);
        x.next(0, 0, 3);
        x.gate(1, ONE, -1, -1, -1);
        x.out(1, 0, 2);
        x.out(1, 1, 2);
        x.next(1, 0, 2);
        for (int k = 0; k < 4; k++) {
            r.due(3, x.mend(2, 3, -1, k));
            r.due(UNABLE, x.mend(2, -1, -1, k));
            r.due((k & 1) == 0 ? 1 : UNABLE, x.mend(3, -1, -1, k));
        }
        x.next(1, 0, 0);
        for (int k = 0; k < 4; k++) r.due((k & 1) == 1 ? 3 : UNABLE, x.mend(2, 3, -1, k));
    }

    /** A GATE of each KIND behind the POINT, the POINT at each of its PINS, WISH being 0 and then 1. */
    private void mendsByKind() {
        r.says("MENDS it if, with the POINTS having these values whatever their PINS say, every OBSERVED of OLD is that of WISH.");
        for (int k = 0; k < 7; k++) {
            for (int p = 0; p < PINS[k]; p++) {
                for (int want = 0; want < 2; want++) {
                    GatePatch x = new GatePatch();
                    x.gate(0, AND, 0, 1, -1);
                    x.gate(0, k, p == 0 ? 3 : 0, pin(k, 1, p == 1 ? 3 : p == 0 ? 0 : 1), pin(k, 2, p == 2 ? 3 : 1));
                    x.out(0, 0, 4);
                    x.gate(1, ZERO + want, -1, -1, -1);
                    x.out(1, 0, 3);
                    for (int q = 0; q < 8; q++) r.due(leastFor(k, p, want, q & 1, q >> 1 & 1), x.mend(3, -1, -1, q));
                }
            }
        }
    }

    private static int leastFor(int kind, int pin, int want, int x0, int x1) {
        for (int v = 0; v < 2; v++) {
            int got = kind(kind, pin == 0 ? v : x0, pin == 1 ? v : pin == 0 ? x0 : x1, pin == 2 ? v : x1);
            if (got == want) return v;
        }
        return UNABLE;
    }

    /** GATES in front of, behind and beside the POINTS, against the order of their numbers, in all four parts of 256 CASES. */
    private void mendsMany() {
        r.says("MENDS it if, with the POINTS having these values whatever their PINS say, every OBSERVED of OLD is that of WISH.");
        GatePatch x = new GatePatch();
        x.begin(8, 0, 2);
        x.gate(0, XOR, 0, 0, -1);
        x.gate(0, AND, 6, 7, -1);
        x.gate(0, XOR, 9, 0, -1);
        x.gate(0, OR, 10, 7, -1);
        x.gate(0, NOT, 11, -1, -1);
        x.rewire(0, 8, 0, 12);
        // 9 = x6 x7, 10 = 9 xor x0, 11 = 10 or x7, 12 = not 11, 8 = 12 xor x0; outputs 8 and 9
        x.out(0, 0, 8);
        x.out(0, 1, 9);
        x.gate(1, AND, 6, 7, -1);
        x.out(1, 0, 1);
        x.out(1, 1, 8);
        for (int k = 0; k < 256; k += 3) {
            int x0 = k & 1, x1 = k >> 1 & 1, x6 = k >> 6 & 1, x7 = k >> 7;
            int due = UNABLE;
            for (int v = 1; v >= 0; v--) if (((1 - (v | x7)) ^ x0) == x1) due = v;
            r.due(due, x.mend(10, -1, -1, k));
            due = UNABLE;
            for (int v = 3; v >= 0; v--) {
                int nine = v & 1, ten = v >> 1;
                if (((1 - (ten | x7)) ^ x0) == x1 && nine == x6 * x7) due = v;
            }
            r.due(due, x.mend(9, 10, -1, k));
            r.due(x1 ^ x0, x.mend(12, -1, -1, k));
        }
        r.due(256, x.witness(0, 9, 12, -1));
        for (int k = 0; k < 256; k += 7) r.due((k >> 6 == 3 ? 1 : 0) + 2 * (k & 1 ^ k >> 1 & 1), x.at(0, k));
        r.due(SAME, x.judge(0, 9, 12, -1));
    }

    private void enough() {
        r.says("POINTS are ENOUGH if each CASE that isn't FREE has an ASSIGNMENT that MENDS it.");
        // behind the POINT 11 comes a GATE that lets it through in all parts of the CASES but one
        for (int part = 0; part < 4; part++) {
            GatePatch x = new GatePatch();
            x.begin(8, 0, 1);
            x.gate(0, NOT, 6, -1, -1);
            x.gate(0, NOT, 7, -1, -1);
            x.gate(0, NAND, (part & 1) == 1 ? 6 : 8, part > 1 ? 7 : 9, -1);
            x.gate(0, ZERO, -1, -1, -1);
            x.gate(0, AND, 10, 11, -1);
            x.gate(0, OR, 12, 12, -1);
            x.gate(1, ONE, -1, -1, -1);
            x.out(0, 0, 13);
            x.out(1, 0, 8);
            r.due(64 * part, x.enough(11, -1, -1));
            r.due(0, x.enough(10, -1, -1));
            r.due(SAME, x.enough(12, -1, -1));
            r.due(SAME, x.enough(10, 11, -1));
            r.due(1, x.points(3));
            r.due(12, x.point(0));
            r.due(UNABLE, x.witness(0, 11, -1, -1));
            r.due(UNABLE, x.mend(11, -1, -1, 64 * part + 63));
            r.due(1, x.mend(11, -1, -1, (64 * part + 64) % 256));
            for (int k = 0; k < 64; k++) x.free(64 * part + k);
            r.due(SAME, x.enough(11, -1, -1));
            r.due(UNABLE, x.mend(11, -1, -1, 64 * part + 63));
            r.due(1, x.points(1));
            r.due(11, x.point(0));
            x.free(64 * part + 63);
            r.due(64 * part + 63, x.enough(11, -1, -1));
            r.due(1, x.points(1));
            r.due(12, x.point(0));
        }
    }

    // ---- III ----

    private void tolds() {
        r.says("III. A PATCH is for 1 or 2 POINTS by 0 to 3 TOLD WIRES of OLD (m of them, rising), none of which HANGS on a POINT.");
        for (int u = -2; u <= 6; u++) {
            // the POINT is 2; 3 hangs on it; 4 and 5 do not; the output is 5, so all can be done
            GatePatch x = toldNet();
            for (int v = -2; v <= 6; v++) {
                for (int w = -2; w <= 6; w++) {
                    int m = w != -1 ? 3 : v != -1 ? 2 : u != -1 ? 1 : 0;
                    int[] told = {u, v, w};
                    boolean fits = true;
                    boolean rings = false;
                    for (int j = 0; j < m; j++) {
                        fits &= told[j] >= 0 && told[j] <= 5 && (j == 0 || told[j] > told[j - 1]);
                        rings |= told[j] == 2 || told[j] == 3;
                    }
                    r.due(fits ? rings ? RING : 0 : NONE, x.patch(2, -1, u, v, w));
                    r.due(fits && !rings ? m : x.patched(2), x.patched(2));
                    if (fits && !rings) for (int j = 0; j < 3; j++) r.due(told[j], x.told(j));
                }
            }
        }
        GatePatch x = toldNet();
        for (int a = -2; a <= 6; a++) {
            for (int b = -2; b <= 6; b++) {
                boolean fits = a >= 2 && a <= 5 && (b == -1 || b > a && b <= 5);
                r.due(fits ? 0 : NONE, x.patch(a, b, -1, -1, -1));
                if (fits) r.due(b == -1 ? 1 : 2, x.patched(1));
            }
        }
        // a TOLD WIRE that HANGS on the second POINT alone, on the first alone; one that is the other POINT
        r.due(RING, x.patch(2, 4, 5, -1, -1));
        r.due(RING, x.patch(2, 4, 3, -1, -1));
        r.due(RING, x.patch(2, 4, 0, 1, 4));
        r.due(0, x.patch(2, 4, 0, 1, -1));
    }

    /** 2 = AND, 3 = NOT of 2, 4 = OR, 5 = NOT of 4, of two inputs; OLD's output is input 0, and WISH's too. */
    private static GatePatch toldNet() {
        GatePatch x = new GatePatch();
        x.begin(2, 0, 1);
        x.gate(0, AND, 0, 1, -1);
        x.gate(0, NOT, 2, -1, -1);
        x.gate(0, OR, 0, 1, -1);
        x.gate(0, NOT, 4, -1, -1);
        return x;
    }

    private void pattern() {
        r.says("The PATTERN of a CASE: a number, its bit j the value of the j-th TOLD WIRE.");
        // WISH is 1 at CASE 1 alone, or it is x0 and not x2
        GatePatch x = Nets.zeroTo(0x0A);
        r.due(2, x.patch(3, -1, 0, 2, -1));
        r.due(0x2, x.function(0));
        x = Nets.zeroTo(0x50);
        r.due(2, x.patch(3, -1, 0, 2, -1));
        r.due(0x4, x.function(0));
        x = Nets.zeroTo(0x30);
        r.due(2, x.patch(3, -1, 1, 2, -1));
        r.due(0x4, x.function(0));
        r.due(2, x.patch(3, -1, 0, 1, 2));
        r.due(0x30, x.function(0));
        // a TOLD WIRE may be a GATE
        x.gate(0, NOT, 1, -1, -1);
        r.due(1, x.patch(3, -1, 2, 4, -1));
        r.due(0x8, x.function(0));
        r.due(UNABLE, x.patch(3, -1, 4, -1, -1));
    }

    private void allowed() {
        r.says("An ASSIGNMENT (of the 1 or 2 POINTS) is ALLOWED at a PATTERN if it MENDS all CASES with it that aren't FREE.");
        // x0 xor x1 at CASES 0 and 3, by x0: 0 wants 0, 1 wants 1, 2 wants 1, 3 wants 0
        GatePatch x = Nets.andTo(XOR);
        r.due(UNABLE, x.patch(2, -1, 0, -1, -1));
        x.free(2);
        r.due(UNABLE, x.patch(2, -1, 0, -1, -1));
        x.free(3);
        r.due(0, x.patch(2, -1, 0, -1, -1));
        r.due(2, x.function(0));
        x.free(2);
        x.free(0);
        r.due(0, x.patch(2, -1, 0, -1, -1));
        r.due(3, x.function(0));
        // of two POINTS: each of the CASES of a PATTERN wants other ones of them, and one is left
        x = Nets.zerosTo(0xAA, 0xCC);
        r.due(0, x.patch(3, 4, 0, 1, -1));
        r.due(10, x.function(0));
        r.due(12, x.function(1));
        r.due(UNABLE, x.patch(3, 4, 0, 2, -1));
        r.due(0, x.clash(0));
        r.due(2, x.clash(1));
    }

    private void clash() {
        r.says("If a PATTERN has no ALLOWED one, there is a CLASH: taking the CASES that aren't FREE from 0 on, the first one by which its PATTERN has none left: that CASE, and the first CASE (not FREE) with the same PATTERN.");
        // outputs x or y, x and y of the POINTS 3 and 4; WISH wants by CASE
        GatePatch x = new GatePatch();
        x.begin(3, 0, 2);
        x.gate(0, ZERO, -1, -1, -1);
        x.gate(0, ZERO, -1, -1, -1);
        x.gate(0, OR, 3, 4, -1);
        x.gate(0, AND, 3, 4, -1);
        x.out(0, 0, 5);
        x.out(0, 1, 6);
        x.out(1, 0, Nets.table(x, 0xFE));
        x.out(1, 1, Nets.table(x, 0x80));
        // CASE 0 wants 0 of both, 7 both, all others one of them
        r.due(UNABLE, x.patch(3, 4, -1, -1, -1));
        r.due(0, x.clash(0));
        r.due(1, x.clash(1));
        x.free(0);
        r.due(UNABLE, x.patch(3, 4, -1, -1, -1));
        r.due(1, x.clash(0));
        r.due(7, x.clash(1));
        r.due(UNABLE, x.patch(3, 4, 2, -1, -1));
        r.due(4, x.clash(0));
        r.due(7, x.clash(1));
        x.free(0);
        r.due(UNABLE, x.patch(3, 4, 2, -1, -1));
        r.due(0, x.clash(0));
        r.due(1, x.clash(1));
        x.free(1);
        x.free(2);
        x.free(3);
        r.due(UNABLE, x.patch(3, 4, 2, -1, -1));
        r.due(4, x.clash(0));
        r.due(7, x.clash(1));
        // with one POINT alone a CASE that it can't MEND clashes by itself if it is the first one
        x.free(0);
        r.due(UNABLE, x.patch(3, -1, 0, 1, 2));
        r.due(7, x.clash(0));
        r.due(7, x.clash(1));
        // the PATTERN that clashes first by its CASES, not by its number
        x = Nets.zeroTo(0x68);
        r.due(UNABLE, x.patch(3, -1, 0, -1, -1));
        r.due(1, x.clash(0));
        r.due(3, x.clash(1));
        // an ASSIGNMENT that was gone does not come back
        x = Nets.zeroTo(0x04);
        r.due(UNABLE, x.patch(3, -1, -1, -1, -1));
        r.due(0, x.clash(0));
        r.due(2, x.clash(1));
    }

    private void clashParts() {
        r.says("If a PATTERN has no ALLOWED one, there is a CLASH: taking the CASES that aren't FREE from 0 on, the first one by which its PATTERN has none left: that CASE, and the first CASE (not FREE) with the same PATTERN.");
        GatePatch x = new GatePatch();
        x.begin(8, 0, 2);
        x.gate(0, ZERO, -1, -1, -1);
        x.gate(0, ZERO, -1, -1, -1);
        x.out(0, 0, 8);
        x.out(0, 1, 9);
        x.gate(1, AND, 6, 7, -1);
        x.out(1, 0, 8);
        x.out(1, 1, 7);
        // 8 is to be x6 x7, 9 is to be x7
        r.due(UNABLE, x.patch(8, 9, 6, -1, -1));
        r.due(0, x.clash(0));
        r.due(128, x.clash(1));
        r.due(UNABLE, x.patch(8, 9, 7, -1, -1));
        r.due(128, x.clash(0));
        r.due(192, x.clash(1));
        r.due(1, x.patch(8, 9, 6, 7, -1));
        r.due(8, x.function(0));
        r.due(12, x.function(1));
        r.due(UNABLE, x.patch(8, 9, 0, 7, -1));
        r.due(128, x.clash(0));
        r.due(192, x.clash(1));
        x.free(192);
        x.free(128);
        r.due(UNABLE, x.patch(8, 9, 0, 7, -1));
        r.due(129, x.clash(0));
        r.due(193, x.clash(1));
        x.out(0, 1, 7);
        r.due(UNABLE, x.patch(8, -1, 6, -1, -1));
        r.due(64, x.clash(0));
        r.due(193, x.clash(1));
        r.due(1, x.patch(8, -1, 6, 7, -1));
        r.due(UNABLE, x.patch(8, -1, 5, 7, -1));
        r.due(129, x.clash(0));
        r.due(193, x.clash(1));
        // the last CASE alone is other
        for (int k = 193; k < 255; k++) x.free(k);
        r.due(UNABLE, x.patch(8, -1, 3, 7, -1));
        r.due(136, x.clash(0));
        r.due(255, x.clash(1));
        x.free(255);
        r.due(0, x.patch(8, -1, 3, 7, -1));
    }

    private void numbers() {
        r.says("A function of m WIRES is a number f below 2^(2^m): its bit p is the value at PATTERN p.");
        GatePatch x = new GatePatch();
        int[] below = {2, 4, 16, 256};
        for (int m = 0; m < 4; m++) {
            r.due(0, x.cost(m, below[m] - 1));
            r.due(NONE, x.cost(m, below[m]));
            r.due(0, x.cost(m, 0));
            r.due(NONE, x.cost(m, -1));
        }
        for (int p = 0; p < 8; p++) {
            GatePatch y = Nets.zeroTo(1 << p);
            r.due(Model.COSTS[3][1 << p], y.patch(3, -1, 0, 1, 2));
            r.due(1 << p, y.function(0));
        }
    }

    private void costs() {
        r.says("Its COST for m, and its TREE: COST 0: 0 (TREE: the leaf ZERO), 2^(2^m) - 1 (the leaf ONE), and the m functions that are the j-th TOLD WIRE (the leaf j).");
        GatePatch x = new GatePatch();
        int[][] none = {{0, 1}, {0, 2, 3}, {0, 10, 12, 15}, {0, 0xAA, 0xCC, 0xF0, 0xFF}};
        for (int m = 0; m < 4; m++) {
            for (int f = 0; f < 1 << (1 << m); f++) {
                boolean leaf = false;
                for (int n : none[m]) leaf |= n == f;
                if (m < 3 || f % 5 == 0 || leaf) r.due(leaf ? 1 : 0, x.cost(m, f) == 0 ? 1 : 0);
            }
        }
        r.says("Else COST is the least number of GATES of KINDS 0 to 5 in a tree over such leaves;");
        x = new GatePatch();
        for (int f = 0; f < 256; f++) r.due(Model.COSTS[3][f], x.cost(3, f));
        for (int f = 0; f < 16; f++) r.due(Model.COSTS[2][f], x.cost(2, f));
        for (int f = 0; f < 4; f++) r.due(Model.COSTS[1][f], x.cost(1, f));
        // a MUX, 0xCA, isn't among the KINDS: it costs three
        r.due(3, x.cost(3, 0xCA));
        r.due(4, x.cost(3, 232));
    }

    /** The TREE of each function of up to three WIRES, as the PATCH tells it, and what it comes to. */
    private void trees() {
        r.says("its TREE: NOT over the TREE of the function that is 1 where f is 0, if that has a COST of one less; else, of the KINDS AND, OR, XOR, NAND, NOR the first one, of the functions g the least, and of the functions h the least (in this order of weight) with COST of g and COST of h together one less, and f at each PATTERN the KIND's value of g and h: the KIND over the TREES of g and of h.");
        for (int m = 0; m < 4; m++) {
            for (int f = 0; f < 1 << (1 << m); f++) {
                int wide = f;
                for (int j = m; j < 3; j++) wide |= wide << (1 << j);
                GatePatch x = Nets.zeroTo(wide);
                r.due(Model.COSTS[m][f], x.patch(3, -1, m > 0 ? 0 : -1, m > 1 ? 1 : -1, m > 2 ? 2 : -1));
                r.due(f, x.function(0));
                List<int[]> tree = new ArrayList<>();
                int root = tree(tree, m, f);
                r.due(tree.size(), x.patched(0));
                for (int i = 0; i < tree.size(); i++) for (int what = 0; what < 3; what++) r.due(tree.get(i)[what], x.node(i, what));
                r.due(NONE, x.node(tree.size(), 0));
                r.due(root >= 200 ? 1 : tree.size(), x.apply());
                r.due(SAME, x.differ());
            }
        }
    }

    /** The GATES {KIND, first part, second part} of a TREE behind those that are there: what the whole is as a part. */
    private static int tree(List<int[]> gates, int m, int f) {
        int ones = (1 << (1 << m)) - 1;
        int[] cost = Model.COSTS[m];
        if (f == 0 || f == ones) return f == 0 ? 200 : 201;
        for (int j = 0; j < m; j++) if (f == Model.wireFunction(m, j)) return 100 + j;
        int[] gate = {NOT, 0, -2};
        if (cost[ones - f] == cost[f] - 1) {
            gate[1] = tree(gates, m, ones - f);
        } else {
            int[] found = split(m, f);
            gate[0] = found[0];
            gate[1] = tree(gates, m, found[1]);
            gate[2] = tree(gates, m, found[2]);
        }
        gates.add(gate);
        return gates.size() - 1;
    }

    private static int[] split(int m, int f) {
        int[] cost = Model.COSTS[m];
        for (int kind = AND; kind <= NOR; kind++) {
            for (int g = 0; g < cost.length; g++) {
                for (int h = 0; h < cost.length; h++) {
                    if (cost[g] + cost[h] == cost[f] - 1 && Model.over(m, kind, g, h) == f) return new int[] {kind, g, h};
                }
            }
        }
        throw new AssertionError();
    }

    private void choice() {
        r.says("The PATCH has, for each POINT, a function such that at each PATTERN the ASSIGNMENT they make is ALLOWED (where no CASE has a PATTERN, each is);");
        // TOLD x0, x1 and their AND: the PATTERNS 3, 4, 5 and 6 have no CASE
        GatePatch x = Nets.zeroTo(0x88);
        x.gate(0, AND, 0, 1, -1);
        r.due(0, x.patch(3, -1, 0, 1, 4));
        r.due(0xF0, x.function(0));
        x = Nets.zeroTo(0x66);
        x.gate(0, AND, 0, 1, -1);
        // xor of the two: 1 at PATTERNS 1 and 2, 0 at 0 and 7; with COST 1 the least is 6 + .. : none below 0x3C
        r.due(1, x.patch(3, -1, 0, 1, 4));
        int least = -1;
        for (int f = 255; f >= 0; f--) if ((f & 0x87) == 0x06 && Model.COSTS[3][f] == 1) least = f;
        r.due(least, x.function(0));
        r.says("of all these the COSTS added are least; then the first POINT's function is the least number, then the second one's.");
        // the output is the POINTS' or: it is to be this function; each pair of functions is looked at here
        for (int want = 0; want < 16; want++) {
            for (int kind = AND; kind <= NOR; kind++) {
                GatePatch y = new GatePatch();
                y.begin(2, 0, 1);
                y.gate(0, ZERO, -1, -1, -1);
                y.gate(0, ZERO, -1, -1, -1);
                y.gate(0, kind, 2, 3, -1);
                y.out(0, 0, 4);
                int zero = y.gate(1, ZERO, -1, -1, -1);
                int one = y.gate(1, ONE, -1, -1, -1);
                int low = y.gate(1, MUX, 0, (want & 2) > 0 ? one : zero, (want & 1) > 0 ? one : zero);
                int high = y.gate(1, MUX, 0, (want & 8) > 0 ? one : zero, (want & 4) > 0 ? one : zero);
                y.out(1, 0, y.gate(1, MUX, 1, high, low));
                int[] best = {99, 0, 0};
                for (int f = 0; f < 16; f++) {
                    for (int g = 0; g < 16; g++) {
                        int sum = Model.COSTS[2][f] + Model.COSTS[2][g];
                        if (sum < best[0] && Model.over(2, kind, f, g) == want) best = new int[] {sum, f, g};
                    }
                }
                r.due(best[0], y.patch(2, 3, 0, 1, -1));
                r.due(best[1], y.function(0));
                r.due(best[2], y.function(1));
                r.due(NONE, y.function(2));
            }
        }
        // one CASE is FREE: of the two functions that are left the cheaper one, or the lesser one
        for (int f = 0; f < 256; f++) {
            for (int k = 0; k < 8; k++) {
                GatePatch y = Nets.zeroTo(f);
                y.free(k);
                int with = f | 1 << k;
                int without = f & ~(1 << k);
                int due = Model.COSTS[3][with] < Model.COSTS[3][without] ? with : without;
                r.due(Model.COSTS[3][due], y.patch(3, -1, 0, 1, 2));
                r.due(due, y.function(0));
            }
        }
        // the greatest number as the first function, and as the second one
        x = Nets.zerosTo(255, 255);
        r.due(0, x.patch(3, 4, 0, 1, 2));
        r.due(255, x.function(0));
        r.due(255, x.function(1));
    }

    private void nodes() {
        r.says("The PATCH's GATES, in order: of the first POINT's TREE: all of its first part's, then all of its second part's, then its own; then the second POINT's likewise.");
        // no PATCH has more than 8 GATES: two functions with a COST of 4
        GatePatch x = Nets.zerosTo(22, 232);
        r.due(8, x.patch(3, 4, 0, 1, 2));
        r.due(8, x.patched(0));
        List<int[]> trees = new ArrayList<>();
        tree(trees, 3, 22);
        r.due(4, trees.size());
        tree(trees, 3, 232);
        for (int i = 0; i < 8; i++) {
            for (int what = 0; what < 3; what++) r.due(trees.get(i)[what], x.node(i, what));
            r.due(i / 4, x.node(i, 3));
            r.due(-2, x.node(i, 4));
        }
        r.due(NONE, x.node(8, 0));
        r.due(8, x.apply());
        r.due(SAME, x.differ());
        r.says("Leaves are no GATES.");
        x = Nets.zerosTo(0, 0xCC);
        r.due(0, x.patch(3, 4, 0, 1, 2));
        r.due(0, x.patched(0));
        r.due(NONE, x.node(0, 0));
        x = Nets.zerosTo(255, 0x33);
        r.due(1, x.patch(3, 4, 0, 1, 2));
        r.due(1, x.patched(0));
        r.due(1, x.node(0, 3));
    }

    // ---- IV ----

    private void places() {
        r.says("IV. PLACES: each WIRE of OLD has a place (0, 0 at first; x and y 0 .. 31);");
        GatePatch x = new GatePatch();
        for (int w = 0; w < 3; w++) r.due(0, x.site(w, 31, 31));
        r.due(3, x.gate(0, ZERO, -1, -1, -1));
        r.due(0, x.site(3, 1, 0));
        r.due(1, x.site(3, 0, 1));
        r.due(32, x.site(3, 31, 0));
        r.due(31, x.site(3, 0, 31));
        r.due(992, x.site(3, 31, 31));
        r.due(1023, x.site(3, 31, 31));
        int[][] none = {{-1, 0}, {0, -1}, {32, 0}, {0, 32}, {31, 32}, {32, 31}, {Integer.MIN_VALUE, 0}, {0, Integer.MAX_VALUE}};
        for (int[] n : none) {
            r.due(NONE, x.site(3, n[0], n[1]));
            r.due(NONE, x.spare(0, n[0], n[1]));
        }
        r.due(1023, x.site(3, 0, 0));
        // WISH has no places: its WIRES are no WIRES of OLD
        x.gate(1, ZERO, -1, -1, -1);
        x.gate(1, ZERO, -1, -1, -1);
        r.due(NONE, x.site(4, 0, 0));
        x.begin(3, 0, 1);
        for (int w = 0; w < 3; w++) r.due(0, x.site(w, 0, 0));
        r.says("a distance is the columns' and the rows' distances added.");
        int[][] rows = {{0, 0, 0, 0, 0}, {0, 0, 31, 31, 62}, {31, 31, 0, 0, 62}, {31, 0, 0, 31, 62}, {0, 31, 31, 0, 62},
            {5, 7, 6, 7, 1}, {5, 7, 5, 6, 1}, {3, 9, 9, 3, 12}, {31, 0, 0, 0, 31}, {0, 31, 0, 0, 31}, {31, 0, 0, 1, 32}};
        for (int[] d : rows) {
            // a NOT of the POINT's own place: the distance to the TOLD WIRE alone
            GatePatch y = Nets.zeroTo(0x55);
            y.site(0, d[0], d[1]);
            y.site(3, d[2], d[3]);
            y.spare(NOT, d[2], d[3]);
            r.due(1, y.patch(3, -1, 0, -1, -1));
            r.due(d[4], y.place());
        }
    }

    private void spares() {
        r.says("SPARES: numbered 0 .. 11, each with a KIND (0 .. 5), a place; USED or not.");
        GatePatch x = new GatePatch();
        for (int k : new int[] {-1, 6, 7, 8, 9, Integer.MAX_VALUE, Integer.MIN_VALUE}) r.due(NONE, x.spare(k, 0, 0));
        r.due(0, x.count(6));
        r.due(NONE, x.used(0));
        for (int s = 0; s < 12; s++) {
            r.due(s, x.spare(s % 6, s, s));
            r.due(0, x.used(s));
            r.due(NONE, x.used(s + 1));
        }
        r.due(FULL, x.spare(0, 0, 0));
        r.due(12, x.count(6));
        r.due(NONE, x.used(12));
        r.due(NONE, x.used(-1));
    }

    private void length() {
        r.says("The LENGTH of a GATE of the PATCH at a SPARE: the distance from it to its POINT's place, and for each of its parts that is a leaf j the distance to the place of the j-th TOLD WIRE (a leaf ZERO or ONE: nothing).");
        // x0 x1 or x2, 0xF8: an OR over leaf 2 and an AND over leaves 0 and 1
        GatePatch x = Nets.zeroTo(0xF8);
        x.site(0, 1, 0);
        x.site(1, 0, 2);
        x.site(2, 4, 0);
        x.site(3, 0, 8);
        x.spare(AND, 0, 0);
        x.spare(OR, 0, 0);
        r.due(2, x.patch(3, -1, 0, 1, 2));
        // the AND: 8, 1 and 2; the OR: 8 and 4
        r.due(23, x.place());
        // x1 and not x1 apart: a GATE whose both parts are one leaf counts it twice, as NOT counts one
        x = Nets.zeroTo(0x55);
        x.site(0, 9, 0);
        x.spare(NOT, 0, 0);
        r.due(1, x.patch(3, -1, 0, -1, -1));
        r.due(9, x.place());
        // the TOLD WIRES' numbers in the PATCH, not their numbers in OLD: leaf 0 is WIRE 1, leaf 1 is WIRE 2
        x = Nets.zeroTo(0xC0);
        x.site(0, 31, 31);
        x.site(1, 5, 0);
        x.site(2, 0, 7);
        x.spare(AND, 0, 0);
        r.due(1, x.patch(3, -1, 1, 2, -1));
        r.due(12, x.place());
        // a PATCH that is a leaf ZERO or ONE, or a leaf j: nothing at all
        for (int f : new int[] {0, 255, 0xCC}) {
            x = Nets.zeroTo(f);
            for (int w = 0; w < 4; w++) x.site(w, w, 20 + w);
            r.due(0, x.patch(3, -1, 0, 1, 2));
            r.due(0, x.place());
            r.due(1, x.patched(3));
        }
        // each GATE to its own POINT
        x = Nets.zerosTo(0x88, 0xEE);
        x.site(3, 3, 0);
        x.site(4, 0, 6);
        x.spare(OR, 0, 0);
        x.spare(AND, 0, 0);
        r.due(2, x.patch(3, 4, 0, 1, -1));
        r.due(9, x.place());
        x.site(3, 4, 0);
        r.due(2, x.patch(3, 4, 0, 1, -1));
        r.due(10, x.place());
    }

    private void placing() {
        r.says("A PLACING gives each GATE of the PATCH its own SPARE of its KIND that isn't USED;");
        // all at one place: no LENGTH tells the SPARES apart, and still each GATE has its own
        GatePatch x = Nets.zerosTo(0x88, 0xA0);
        x.spare(OR, 0, 0);
        x.spare(AND, 0, 0);
        r.due(2, x.patch(3, 4, 0, 1, 2));
        r.due(SPARE, x.place());
        r.due(0, x.patched(3));
        x.spare(AND, 0, 0);
        r.due(2, x.patch(3, 4, 0, 1, 2));
        r.due(0, x.place());
        r.due(1, x.node(0, 4));
        r.due(2, x.node(1, 4));
        r.due(2, x.apply());
        for (int s = 0; s < 3; s++) r.due(s == 0 ? 0 : 1, x.used(s));
        x.out(0, 0, 3);
        x.out(0, 1, 4);
        r.due(2, x.patch(3, 4, 0, 1, 2));
        r.due(SPARE, x.place());
        x.spare(AND, 31, 31);
        r.due(2, x.patch(3, 4, 0, 1, 2));
        r.due(SPARE, x.place());
        x.spare(AND, 30, 31);
        r.due(2, x.patch(3, 4, 0, 1, 2));
        r.due(6 * 62 - 3, x.place());
        r.due(3, x.node(0, 4));
        r.due(4, x.node(1, 4));
        r.says("the least LENGTHS added; of these the one whose SPARES, in the order of the GATES, are first the least.");
        // the SPARE that is nearest for the first GATE does more for the second one: 8 + 1, not 1 + 10
        x = Nets.zerosTo(0x88, 0x88);
        x.site(0, 11, 0);
        x.site(1, 11, 0);
        x.site(3, 10, 0);
        x.site(4, 12, 0);
        x.spare(AND, 11, 0);
        x.spare(AND, 8, 0);
        r.due(2, x.patch(3, 4, 0, 1, -1));
        r.due(9, x.place());
        r.due(1, x.node(0, 4));
        r.due(0, x.node(1, 4));
        // of equal ones the least number, whatever else is there
        x = Nets.zeroTo(0x88);
        x.site(3, 8, 8);
        x.spare(OR, 8, 8);
        for (int s = 1; s < 5; s++) x.spare(AND, s == 1 ? 9 : 8, s == 1 ? 9 : 12 - 2 * s);
        r.due(1, x.patch(3, -1, 0, 1, -1));
        // (9, 9): 2 + 18 + 18; (8, 8): 0 + 16 + 16; (8, 6): 2 + 14 + 14; (8, 4): 4 + 12 + 12
        r.due(28, x.place());
        r.due(4, x.node(0, 4));
        x.spare(AND, 4, 8);
        x.spare(AND, 8, 4);
        r.due(1, x.patch(3, -1, 0, 1, -1));
        r.due(28, x.place());
        r.due(4, x.node(0, 4));
    }

    /** 8 GATES and 12 SPARES: against all placings, tried one by one. */
    private void placingMany() {
        r.says("the least LENGTHS added; of these the one whose SPARES, in the order of the GATES, are first the least.");
        GatePatch x = Nets.zerosTo(22, 232);
        x.patch(3, 4, 0, 1, 2);
        int[] kinds = new int[8];
        for (int i = 0; i < 8; i++) kinds[i] = x.node(i, 0);
        int[][] at = {{3, 4}, {9, 1}, {20, 20}, {7, 30}, {12, 5}};
        for (int w = 0; w < 5; w++) x.site(w, at[w][0], at[w][1]);
        int[][] spares = new int[12][];
        for (int s = 0; s < 12; s++) {
            spares[s] = new int[] {kinds[s % 8], s * 7 % 32, s * s * 3 % 32};
            r.due(s, x.spare(spares[s][0], spares[s][1], spares[s][2]));
        }
        r.due(8, x.patch(3, 4, 0, 1, 2));
        int[][] gates = new int[8][];
        for (int i = 0; i < 8; i++) gates[i] = new int[] {x.node(i, 0), 3 + x.node(i, 3), x.node(i, 1) - 100, x.node(i, 2) - 100};
        int[] best = new int[9];
        best[8] = 1 << 20;
        tryAll(gates, at, spares, new int[8], 0, 0, best);
        r.due(best[8], x.place());
        for (int i = 0; i < 8; i++) r.due(best[i], x.node(i, 4));
        r.due(8, x.apply());
        for (int i = 0; i < 8; i++) r.due(32 * spares[best[i]][2] + spares[best[i]][1], x.site(5 + i, 0, 0));
    }

    /** All placings, the least SPARES first: into best the SPARES of the first one with the least LENGTHS, and these. */
    private static void tryAll(int[][] gates, int[][] at, int[][] spares, int[] chosen, int i, int sum, int[] best) {
        if (i == 8) {
            if (sum < best[8]) {
                System.arraycopy(chosen, 0, best, 0, 8);
                best[8] = sum;
            }
            return;
        }
        for (int s = 0; s < 12; s++) {
            boolean taken = spares[s][0] != gates[i][0];
            for (int j = 0; j < i; j++) taken |= chosen[j] == s;
            if (taken) continue;
            int more = 0;
            for (int k = 1; k < 4; k++) {
                int wire = gates[i][k];
                if (wire >= 0) more += Math.abs(spares[s][1] - at[wire][0]) + Math.abs(spares[s][2] - at[wire][1]);
            }
            chosen[i] = s;
            tryAll(gates, at, spares, chosen, i + 1, sum + more, best);
        }
    }

    private void ticks() {
        r.says("TICKS: each KIND has a DELAY (0 .. 9; 1 at first).");
        GatePatch x = new GatePatch();
        for (int k = 0; k < 9; k++) {
            r.due(NONE, x.delay(k, -1));
            r.due(NONE, x.delay(k, 10));
            r.due(1, x.delay(k, 9));
            r.due(9, x.delay(k, 0));
            r.due(0, x.delay(k, k));
        }
        r.due(NONE, x.delay(-1, 1));
        r.due(NONE, x.delay(9, 1));
        for (int k = 0; k < 9; k++) r.due(k, x.delay(k, k));
        r.says("A WIRE ARRIVES: inputs and stores at 0; a GATE at its DELAY and the latest of its PINS (none: its DELAY).");
        x.begin(2, 1, 1);
        for (int k = 0; k < 9; k++) x.delay(k, k + 1);
        for (int k = 0; k < 9; k++) {
            int g = x.gate(0, k, pin(k, 0, 0), pin(k, 1, 1), pin(k, 2, 2));
            r.due(k + 1, x.arrive(0, g));
        }
        // each PIN may be the latest; 11 is ONE, which arrives at 9
        for (int k = 0; k < 7; k++) {
            for (int p = 0; p < PINS[k]; p++) {
                x.rewire(0, 3 + k, p, 11);
                r.due(k + 10, x.arrive(0, 3 + k));
                x.rewire(0, 3 + k, p, 0);
                r.due(k + 1, x.arrive(0, 3 + k));
            }
        }
        for (int w = 0; w < 3; w++) r.due(0, x.arrive(0, w));
        // a WIRE that was a GATE and is an input now arrives at 0
        x.next(0, 0, 11);
        r.due(1, x.late(0));
        x.begin(6, 2, 1);
        for (int net = 0; net < 2; net++) for (int w = 0; w < 8; w++) r.due(0, x.arrive(net, w));
        // by all NOTS in a row, 9 each: 40 of them
        x.delay(NOT, 9);
        for (int g = 8; g < 48; g++) x.gate(0, NOT, g - 1, -1, -1);
        r.due(360, x.arrive(0, 47));
        x.out(0, 0, 47);
        r.due(1, x.late(359));
        r.due(0, x.late(360));
        x.delay(NOT, 0);
        r.due(0, x.arrive(0, 47));
    }

    // ---- V ----

    private void applied() {
        r.says("V. APPLYING a PATCH: for each POINT in turn: if its TREE is a leaf j: the new WIRE is the j-th TOLD WIRE;");
        GatePatch x = Nets.zerosTo(0xF0, 0xAA);
        r.due(0, x.patch(3, 4, 0, 2, -1));
        r.due(0, x.apply());
        r.due(2, x.out(0, 0, 0));
        r.due(0, x.out(0, 1, 1));
        r.due(2, x.count(3));
        r.says("else its GATES are added to OLD in their order (a leaf ZERO or ONE as a whole function: a GATE of that KIND), their place that of their SPARE if the PATCH is PLACED (these are USED then), else the POINT's; the new WIRE is the last one of them.");
        // x0 x1 or x2 and NOT x1: an AND and an OR for the first POINT, a NOT for the second
        for (int placed = 0; placed < 2; placed++) {
            x = Nets.zerosTo(0xF8, 0x33);
            x.site(3, 1, 1);
            x.site(4, 2, 2);
            for (int k = NOT; k <= OR; k++) x.spare(k, 10 + k, 10);
            x.spare(AND, 31, 31);
            r.due(3, x.patch(3, 4, 0, 1, 2));
            r.due(OR, x.node(1, 0));
            if (placed == 1) x.place();
            r.due(3, x.apply());
            for (int s = 0; s < 4; s++) r.due(s < 3 ? placed : 0, x.used(s));
            r.due(6, x.out(0, 0, 6));
            r.due(7, x.out(0, 1, 7));
            r.due(placed == 1 ? 331 : 33, x.site(5, 0, 0));
            r.due(placed == 1 ? 332 : 33, x.site(6, 0, 0));
            r.due(placed == 1 ? 330 : 66, x.site(7, 0, 0));
            r.due(33, x.site(3, 0, 0));
            r.due(0x88, x.row(0, 5, 0));
            r.due(0xF8, x.row(0, 6, 0));
            r.due(0x33, x.row(0, 7, 0));
            r.due(NONE, x.rewire(0, 7, 1, 0));
            r.due(1, x.rewire(0, 7, 0, 0));
            for (int w = 0; w < 3; w++) r.due(1, x.hangs(0, 6, w));
        }
        r.due(NONE, x.site(8, 0, 0));
    }

    private void leaves() {
        r.says("else its GATES are added to OLD in their order (a leaf ZERO or ONE as a whole function: a GATE of that KIND), their place that of their SPARE if the PATCH is PLACED (these are USED then), else the POINT's; the new WIRE is the last one of them.");
        for (int placed = 0; placed < 2; placed++) {
            GatePatch x = Nets.zerosTo(255, 0);
            x.site(3, 7, 0);
            x.site(4, 9, 0);
            x.spare(NOT, 1, 1);
            r.due(0, x.patch(3, 4, 0, -1, -1));
            if (placed == 1) r.due(0, x.place());
            r.due(2, x.apply());
            r.due(0, x.used(0));
            r.due(5, x.out(0, 0, 5));
            r.due(6, x.out(0, 1, 6));
            r.due(255, x.row(0, 5, 0));
            r.due(0, x.row(0, 6, 0));
            r.due(7, x.site(5, 0, 0));
            r.due(9, x.site(6, 0, 0));
            for (int p = 0; p < 3; p++) r.due(NONE, x.rewire(0, 5, p, 0));
            r.due(1, x.hangs(0, 5, 5));
            r.due(0, x.hangs(0, 5, 0));
            x.delay(ONE, 3);
            r.due(3, x.arrive(0, 5));
            r.due(1, x.arrive(0, 6));
        }
        r.says("(Leaves ZERO and ONE within a TREE don't come.)");
        GatePatch x = new GatePatch();
        for (int f = 0; f < 256; f++) {
            List<int[]> tree = new ArrayList<>();
            tree(tree, 3, f);
            for (int[] gate : tree) r.due(0, gate[1] >= 200 || gate[2] >= 200 ? 1 : 0);
        }
        r.due(0, x.count(3));
    }

    private void newWires() {
        r.says("Then each PIN of OLD that is a POINT becomes its new WIRE:");
        // 3 is the POINT; all KINDS of GATES have PINS on it; 4 is its own twin and stays
        GatePatch x = new GatePatch();
        x.gate(0, AND, 0, 1, -1);
        x.gate(0, AND, 0, 1, -1);
        for (int k = 0; k < 7; k++) x.gate(0, k, 3, pin(k, 1, 4), pin(k, 2, 3));
        x.out(0, 0, 3);
        x.gate(1, OR, 0, 1, -1);
        x.out(1, 0, 3);
        r.due(1, x.patch(3, -1, 0, 1, -1));
        r.due(1, x.apply());
        r.due(12, x.out(0, 0, 12));
        for (int k = 0; k < 7; k++) {
            r.due(12, x.rewire(0, 5 + k, 0, 0));
            if (k > 0) r.due(4, x.rewire(0, 5 + k, 1, 0));
        }
        r.due(12, x.rewire(0, 11, 2, 0));
        r.due(0, x.rewire(0, 3, 0, 0));
        r.due(1, x.rewire(0, 3, 1, 1));
        // the second POINT HANGS on the first one: its PIN becomes the first one's new WIRE
        x = Nets.zerosTo(0xEE, 0x66);
        r.due(-1, x.rewire(0, 4, 0, 3));
        x.gate(0, NOT, 3, -1, -1);
        x.out(0, 1, 5);
        r.due(2, x.patch(3, 5, 0, 1, -1));
        r.due(2, x.apply());
        r.due(6, x.rewire(0, 5, 0, 0));
        r.due(6, x.out(0, 0, 6));
        r.due(7, x.out(0, 1, 7));
    }

    private void changes() {
        r.says("PINS by GATE and number, all GATES (also the new ones), then outputs, then NEXTs: these are the CHANGES, in this order, POINT by POINT.");
        GatePatch x = new GatePatch();
        x.begin(2, 2, 4);
        x.gate(0, ZERO, -1, -1, -1);
        x.gate(0, ZERO, -1, -1, -1);
        x.gate(0, MUX, 4, 5, 4);
        x.gate(0, NAND, 5, 4, -1);
        x.out(0, 0, 5);
        x.out(0, 1, 4);
        x.out(0, 3, 4);
        x.next(0, 0, 4);
        x.next(0, 1, 5);
        // WISH: all OBSERVED are WIRE 0 but output 1, output 3 and NEXT 0, which are x0 and x1
        x.gate(1, AND, 0, 1, -1);
        x.out(1, 1, 4);
        x.out(1, 3, 4);
        x.next(1, 0, 4);
        r.due(1, x.patch(4, 5, 0, 1, -1));
        r.due(1, x.apply());
        int[][] due = {{0, 6, 0}, {0, 6, 2}, {0, 7, 1}, {1, 1, 0}, {1, 3, 0}, {2, 0, 0},
            {0, 6, 1}, {0, 7, 0}, {1, 0, 0}, {2, 1, 0}};
        r.due(due.length, x.count(8));
        for (int i = 0; i < due.length; i++) for (int what = 0; what < 3; what++) r.due(due[i][what], x.change(i, what));
        r.due(NONE, x.change(due.length, 0));
        // GATES that an earlier APPLYING added are GATES like all others
        x = Nets.andTo(OR);
        x.gate(0, NOT, 2, -1, -1);
        x.patch(2, -1, 0, 1, -1);
        x.apply();
        r.due(2, x.count(8));
        x.out(1, 0, 0);
        r.due(0, x.patch(4, -1, 0, -1, -1));
        r.due(0, x.apply());
        r.due(2, x.count(8));
        r.due(0, x.change(0, 0));
        r.due(3, x.change(0, 1));
        r.due(0, x.change(0, 2));
        r.due(1, x.change(1, 0));
    }

    private void tests() {
        r.says("The TESTS of it: the CASES, not FREE, at which an OBSERVED of OLD was other ahead of it.");
        GatePatch x = new GatePatch();
        x.begin(8, 0, 1);
        x.gate(0, ZERO, -1, -1, -1);
        x.gate(1, ONE, -1, -1, -1);
        x.out(0, 0, 8);
        x.out(1, 0, 8);
        r.due(0, x.patch(8, -1, -1, -1, -1));
        r.due(1, x.apply());
        r.due(256, x.count(9));
        for (int k = 0; k < 256; k += 51) r.due(k, x.test(k));
        r.due(NONE, x.test(256));
        r.due(NONE, x.test(-1));
        // a later APPLYING has its own ones alone
        x.out(1, 0, 7);
        x.free(0);
        x.free(5);
        r.due(0, x.patch(9, -1, 7, -1, -1));
        r.due(0, x.apply());
        r.due(126, x.count(9));
        r.due(1, x.test(0));
        r.due(6, x.test(4));
        r.due(127, x.test(125));
        r.due(NONE, x.test(126));
        // one that changes no OBSERVED has none; each of the OBSERVED counts
        x.gate(0, AND, 0, 1, -1);
        r.due(0, x.patch(10, -1, 0, -1, -1));
        r.due(1, x.apply());
        r.due(0, x.count(9));
        r.due(NONE, x.test(0));
        for (int k = 0; k < 6; k++) {
            x = new GatePatch();
            x.begin(5, 2, 4);
            x.gate(0, XOR, 0, 6, -1);
            x.gate(1, AND, 0, 6, -1);
            for (int net = 0; net < 2; net++) {
                if (k < 4) x.out(net, k, 7); else x.next(net, k - 4, 7);
            }
            r.due(1, x.patch(7, -1, 0, 6, -1));
            r.due(1, x.apply());
            // they are other where x0 or x6 is 1
            r.due(96, x.count(9));
            r.due(1, x.test(0));
            r.due(63, x.test(31));
            r.due(64, x.test(32));
            r.due(127, x.test(95));
        }
    }

    private void undoing() {
        r.says("Up to 4 APPLYINGS can be undone, the last one first; then OLD, places and USED are as ahead of it.");
        GatePatch x = new GatePatch();
        x.begin(2, 1, 1);
        x.gate(0, ZERO, -1, -1, -1);
        x.site(3, 5, 5);
        x.out(0, 0, 3);
        x.next(0, 0, 3);
        for (int s = 0; s < 6; s++) x.spare(s % 2 == 0 ? AND : OR, 6 + s, 0);
        int[] wish = {x.gate(1, AND, 0, 1, -1), x.gate(1, OR, 0, 1, -1)};
        for (int i = 0; i < 6; i++) {
            x.out(1, 0, wish[i % 2]);
            x.next(1, 0, wish[i % 2]);
            r.due(1, x.patch(3 + i, -1, 0, 1, -1));
            // the third one isn't PLACED
            if (i != 2) x.place();
            r.due(1, x.apply());
            r.due(Math.min(4, i + 1), x.count(7));
            r.due(4 + i, lastWire(x));
        }
        // SPARES 0, 1, then none, then 3, 2 and 5 are USED
        int[] used = {0, 0b1, 0b11, 0b11, 0b1011, 0b1111, 0b101111};
        for (int i = 6; i >= 2; i--) {
            for (int s = 0; s < 6; s++) r.due(used[i] >> s & 1, x.used(s));
            r.due(i + 1, x.count(3));
            r.due(i % 2 == 1 ? 0x88 : 0xEE, x.row(0, 3 + i, 0));
            r.due(2, x.late(0));
            r.due(i == 2 ? NONE : i - 3, x.undo());
            r.due(i == 2 ? 0 : i - 3, x.count(7));
        }
        r.due(5, x.next(0, 0, 0));
        r.due(5, x.out(0, 0, 0));
        r.due(165, x.site(3, 0, 0));
        r.due(6, x.site(4, 0, 0));
        r.due(7, x.site(5, 0, 0));
        r.due(NONE, x.site(6, 0, 0));
        r.due(NONE, x.undo());
    }

    /** How many WIRES OLD has, less one. */
    private static int lastWire(GatePatch x) { return x.count(0) + x.count(1) + x.count(3) - 1; }

    private void dropped() {
        r.says("Whenever OLD, WISH, its places, FREE or the SPARES are changed there is no PATCH any more.");
        for (int way = 0; way < 30; way++) {
            GatePatch x = new GatePatch();
            x.begin(2, 1, 1);
            for (int net = 0; net < 2; net++) x.gate(net, AND + net, 0, 1, -1);
            x.out(0, 0, 3);
            x.out(1, 0, 3);
            x.spare(OR, 0, 0);
            x.image(0);
            x.patch(3, -1, 0, 1, -1);
            x.apply();
            r.due(1, x.patch(4, -1, 0, 1, 2));
            r.due(3, x.patched(2));
            boolean stays = way >= 14;
            switch (way) {
                case 0: case 1: x.gate(way, NOT, 0, -1, -1); break;
                case 2: case 3: x.rewire(way - 2, 3, 0, 2); break;
                case 4: case 5: x.out(way - 4, 0, 1); break;
                case 6: case 7: x.next(way - 6, 0, 1); break;
                case 8: x.free(0); break;
                case 9: x.spare(AND, 1, 1); break;
                case 10: x.site(0, 1, 1); break;
                case 11: x.back(0); break;
                case 12: x.undo(); break;
                case 13: x.begin(2, 1, 1); break;
                case 14: x.delay(OR, 5); break;
                case 15: x.mark(0, 3); break;
                case 16: x.points(3); break;
                case 17: x.witness(1, 3, -1, -1); break;
                case 18: x.image(1); break;
                case 19: x.tape(1, 1, 9); break;
                case 20: x.clear(0); break;
                case 21: x.toss(0); break;
                case 22: x.place(); break;
                case 23: x.differ(); x.enough(3, 4, -1); x.mend(3, -1, -1, 0); x.judge(0, 3, -1, -1); break;
                case 24: x.late(0); x.arrive(0, 4); x.arrive(1, 3); x.idle(0); x.idle(1); break;
                case 25: x.hangs(0, 4, 0); x.row(0, 4, 0); x.value(1, 3, 0); x.cost(3, 9); break;
                case 26: x.gate(0, AND, 0, 9, -1); x.rewire(0, 4, 0, 4); x.out(0, 1, 0); x.next(0, 1, 0); break;
                case 27: x.free(8); x.spare(6, 0, 0); x.site(5, 0, 0); x.back(5); x.begin(0, 0, 1); break;
                case 28: x.patch(2, -1, 0, 1, -1); x.patch(4, -1, 4, -1, -1); x.best(2); break;
                default: x.mark(0, 10); x.delay(9, 0); x.tape(0, 1, -1); x.count(7); x.used(0);
            }
            r.due(stays ? 3 : NONE, x.patched(2));
            r.due(stays ? 1 : NONE, x.apply());
        }
        // applying it is a change too
        GatePatch x = Nets.andTo(OR);
        x.patch(2, -1, 0, 1, -1);
        x.apply();
        r.due(NONE, x.patched(0));
    }

    // ---- VI ----

    private void tapes() {
        r.says("VI. TAPES 0 .. 5 each hold nothing (at first), a row of bytes (sort 1), shorts (2), ints (3) or longs (4), or an IMAGE (5): OLD (its GATES, outputs, NEXTs and places).");
        GatePatch x = new GatePatch();
        for (int d = 0; d < 6; d++) {
            r.due(2, Nets.atThrows(x, d, 0));
            r.due(NOTHING, x.put(d, 0, 0));
            r.due(0, x.clear(d));
        }
        long[] put = {127, 128, 255, 256, 32767, 32768, 65535, 65536, 2147483647L, 2147483648L, 4294967295L, 4294967296L,
            Long.MAX_VALUE, Long.MIN_VALUE, -1, -128, -129, -32769, -2147483649L};
        for (int sort = 1; sort <= 4; sort++) {
            for (int d = 0; d < 6; d++) r.due(1, x.tape(d, sort, 1));
            for (long v : put) {
                r.due(1, x.put(sort, 0, v));
                r.due(sort == 1 ? (byte) v : sort == 2 ? (short) v : sort == 3 ? (int) v : v, x.at(sort, 0));
            }
            r.due(0, x.at(sort == 5 ? 0 : 5, 0));
            for (int d = 0; d < 6; d++) r.due(sort, x.clear(d));
        }
        for (int d : new int[] {-1, 6, Integer.MAX_VALUE, Integer.MIN_VALUE}) {
            r.due(NONE, x.tape(d, 1, 1));
            r.due(NONE, x.image(d));
            r.due(NONE, x.back(d));
            r.due(NONE, x.toss(d));
            r.due(NONE, x.clear(d));
            r.due(NONE, x.put(d, 0, 0));
            r.due(1, Nets.atThrows(x, d, 0));
            r.due(NONE, x.copy(d, 0, 0, 0, 0));
            r.due(NONE, x.copy(0, 0, d, 0, 0));
        }
        image();
    }

    private void image() {
        r.says("or an IMAGE (5): OLD (its GATES, outputs, NEXTs and places).");
        GatePatch x = new GatePatch();
        x.begin(6, 2, 4);
        for (int g = 8; g < 48; g++) x.gate(0, g % 9, pin(g % 9, 0, g - 1), pin(g % 9, 1, g % 8), pin(g % 9, 2, g - 2));
        for (int w = 0; w < 48; w++) x.site(w, w % 32, w / 2);
        for (int o = 0; o < 4; o++) x.out(0, o, 44 + o);
        for (int s = 0; s < 2; s++) x.next(0, s, 9 + s);
        long[] rows = new long[48];
        for (int w = 8; w < 48; w++) rows[w] = x.row(0, w, w % 4);
        r.due(40, x.image(3));
        x.begin(6, 2, 4);
        r.due(40, x.back(3));
        for (int w = 8; w < 48; w++) r.due(rows[w], x.row(0, w, w % 4));
        for (int w = 0; w < 48; w++) r.due(32 * (w / 2) + w % 32, x.site(w, 0, 0));
        for (int o = 0; o < 4; o++) r.due(44 + o, x.out(0, o, 0));
        for (int s = 0; s < 2; s++) r.due(9 + s, x.next(0, s, 0));
        r.due(FULL, x.gate(0, ZERO, -1, -1, -1));
        // WISH, FREE, SPARES, DELAYS and MARKS are no part of it
        x = Nets.andTo(OR);
        x.image(0);
        x.gate(1, NOT, 0, -1, -1);
        x.free(2);
        x.spare(OR, 1, 1);
        x.delay(OR, 4);
        x.mark(1, 1);
        r.due(1, x.back(0));
        r.due(2, x.count(4));
        r.due(1, x.count(5));
        r.due(1, x.count(6));
        r.due(4, x.delay(OR, 1));
        r.due(2, x.mark(0, 0));
    }

    private void refusals() {
        r.says("The host's refusals, caught by their names: NOTHING (-11): nothing is held where something is wanted; CAST (-12): it is of another sort; PLACE (-13): a row has no such place; SIZE (-14): a size below 0; THROWN (-15): a failure that is none is thrown.");
        GatePatch x = new GatePatch();
        int n = 0;
        x.gate(0, NOT, 0, -1, -1);
        x.tape(1, 2, 3);
        x.tape(2, 1, 3);
        r.due(NOTHING, x.judge(0, 3, -1, -1));
        r.due(++n, x.count(10));
        r.due(NOTHING, x.back(0));
        r.due(++n, x.count(10));
        r.due(NOTHING, x.toss(0));
        r.due(++n, x.count(10));
        r.due(NOTHING, x.put(0, 0, 0));
        r.due(++n, x.count(10));
        r.due(NOTHING, x.copy(0, 0, 1, 0, 0));
        r.due(++n, x.count(10));
        r.due(CAST, x.judge(1, 3, -1, -1));
        r.due(++n, x.count(10));
        r.due(CAST, x.back(1));
        r.due(++n, x.count(10));
        r.due(CAST, x.toss(1));
        r.due(++n, x.count(10));
        r.due(CAST, x.copy(1, 0, 2, 0, 0));
        r.due(++n, x.count(10));
        x.image(3);
        r.due(CAST, x.put(3, 0, 0));
        r.due(++n, x.count(10));
        r.due(PLACE, x.put(1, 3, 0));
        r.due(++n, x.count(10));
        r.due(PLACE, x.copy(1, 0, 1, 0, 4));
        r.due(++n, x.count(10));
        r.due(PLACE, x.judge(2, 3, -1, -1));
        r.due(++n, x.count(10));
        r.due(SIZE, x.tape(4, 1, -1));
        r.due(++n, x.count(10));
        x.begin(3, 0, 1);
        n = 0;
        x.image(3);
        r.due(THROWN, x.toss(3));
        r.due(++n, x.count(10));
        // no other refusal is the host's
        x.gate(0, NOT, 0, -1, -1);
        x.rewire(0, 3, 0, 3);
        x.patch(3, -1, 3, -1, -1);
        x.gate(0, NOT, 9, -1, -1);
        x.points(0);
        x.place();
        x.undo();
        Nets.atThrows(x, 0, 0);
        Nets.atThrows(x, 9, 0);
        Nets.rowThrows(x, 9, 0, 0);
        r.due(1, x.count(10));
    }
}
