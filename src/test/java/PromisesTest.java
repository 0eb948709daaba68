/**
 * Each promise by itself: what is ordinary, the edges that the document names, and what is wrong.
 * The answers that are due were worked out from the document by hand.
 */
public final class PromisesTest {
    private static final int NONE = -1, RING = -2, FULL = -3, UNABLE = -4, SPARE = -5, SAME = 1000;
    private static final int NOTHING = -11, CAST = -12, PLACE = -13, SIZE = -14, THROWN = -15;
    private static final int NOT = 0, AND = 1, OR = 2, XOR = 3, NAND = 4, NOR = 5, MUX = 6, ZERO = 7, ONE = 8;
    private static final int LEAST = Integer.MIN_VALUE, MOST = Integer.MAX_VALUE;

    private static int promise;
    private static int line;
    private static int wrong;
    private static int rows;

    public static void main(String[] args) {
        nets();
        pointsAndPatches();
        placesAndApplying();
        tapes();
        System.out.println(wrong == 0 ? rows + " answers are as due" : wrong + " of " + rows + " answers are wrong");
        if (wrong != 0) System.exit(1);
    }

    private static void begin(int number) { promise = number; line = 0; }

    /** A row of the promise that is under test: an answer and what is due. */
    private static void due(long want, long got) {
        line++;
        rows++;
        if (got != want) {
            wrong++;
            System.out.println("promise " + promise + ", row " + line + ": answered " + got + ", due is " + want);
        }
    }

    private static void nets() {
        p1(); p2(); p3(); p4(); p5and6(); p7(); p8(); p9(); p10();
    }

    private static void pointsAndPatches() {
        p11(); p12(); p13and14(); p13manyGates(); p15(); p16(); p17(); p18refusals(); p18functions(); p18twoPoints(); p18kept(); p18free(); p19();
        p20(); p21(); p21order(); p22to25(); p25order(); p26();
    }

    private static void placesAndApplying() {
        p27(); p28(); p29(); p29order(); p30(); p31and32(); p33(); p34(); p34two(); p34leaf(); p34full(); p35(); p35none(); p36(); p36most(); p37(); p38();
    }

    private static void tapes() {
        p39(); p40(); p41(); p42(); p43(); p44(); p45(); p46(); p47();
    }

    // ---- nets and cases ----

    private static void p1() {
        begin(1);
        GatePatch x = new GatePatch();
        due(3, x.count(0));
        due(0, x.count(1));
        due(1, x.count(2));
        for (int what = 3; what <= 10; what++) due(0, x.count(what));
        due(0, x.out(0, 0, 0));
        due(0, x.out(1, 0, 0));
        due(SAME, x.differ());
        due(7, x.value(0, 0, 7) + 2 * x.value(0, 1, 7) + 4 * x.value(1, 2, 7));
        due(NONE, x.value(0, 0, 8));
        due(NONE, x.point(0));
        due(NONE, x.clash(0));
        due(NONE, x.patched(0));
        due(NONE, x.place());
        due(NONE, x.apply());
        due(NONE, x.undo());
        due(NONE, x.change(0, 0));
        due(NONE, x.test(0));
        for (int d = 0; d < 6; d++) due(0, x.clear(d));
        for (int kind = 0; kind < 9; kind++) due(1, x.delay(kind, 2));
        for (int w = 0; w < 3; w++) due(0, x.site(w, 1, 1));
        due(1, x.mark(0, 0));
    }

    private static void p2() {
        begin(2);
        GatePatch x = new GatePatch();
        due(2, x.begin(1, 0, 1));
        due(2, x.begin(0, 1, 1));
        due(4, x.begin(0, 2, 4));
        due(256, x.begin(8, 0, 1));
        due(256, x.begin(6, 2, 4));
        due(NONE, x.begin(7, 2, 1));
        due(NONE, x.begin(9, 0, 1));
        due(NONE, x.begin(0, 0, 1));
        due(NONE, x.begin(-1, 2, 1));
        due(NONE, x.begin(3, -1, 1));
        due(NONE, x.begin(1, 3, 1));
        due(NONE, x.begin(3, 0, 0));
        due(NONE, x.begin(3, 0, 5));
        due(NONE, x.begin(MOST, 1, 1));
        due(NONE, x.begin(MOST, MOST, 1));
        due(NONE, x.begin(LEAST, LEAST, 1));
        due(6, x.count(0));
        due(2, x.count(1));
        due(4, x.count(2));
        p2resets();
    }

    private static void p2resets() {
        GatePatch x = Nets.andTo(OR);
        x.spare(OR, 1, 1);
        x.delay(OR, 7);
        x.mark(2, 5);
        x.site(0, 9, 9);
        x.free(3);
        x.image(3);
        x.tape(4, 1, -1);
        due(UNABLE, x.patch(2, -1, -1, -1, -1));
        due(1, x.points(1));
        due(1, x.patch(2, -1, 0, 1, -1));
        due(1, x.apply());
        due(2, x.mark(0, 3));
        due(4, x.begin(2, 0, 1));
        for (int what = 3; what <= 10; what++) due(0, x.count(what));
        due(NONE, x.undo());
        due(NONE, x.point(0));
        due(NONE, x.clash(0));
        due(NONE, x.clash(1));
        due(NONE, x.change(0, 0));
        due(NONE, x.test(0));
        due(NONE, x.patched(0));
        due(NONE, x.used(0));
        due(1, x.delay(OR, 1));
        due(0, x.site(0, 0, 0));
        due(2, x.gate(0, AND, 0, 1, -1));
        due(1, x.mark(2, 5));
        due(1, x.toss(3));
        // a PATCH does not outlive begin(), and a refused begin() leaves all as it was
        x = Nets.andTo(OR);
        due(1, x.patch(2, -1, 0, 1, -1));
        due(NONE, x.begin(2, 0, 9));
        due(1, x.patched(0));
        due(4, x.begin(2, 0, 1));
        due(NONE, x.patched(0));
    }

    private static void p3() {
        begin(3);
        GatePatch x = new GatePatch();
        due(3, x.gate(0, NOT, 0, -1, -1));
        due(4, x.gate(0, MUX, 0, 1, 3));
        due(5, x.gate(0, ZERO, -1, -1, -1));
        due(6, x.gate(0, NOR, 5, 5, -1));
        due(3, x.gate(1, XOR, 2, 2, -1));
        due(NONE, x.gate(2, NOT, 0, -1, -1));
        due(NONE, x.gate(-1, NOT, 0, -1, -1));
        due(NONE, x.gate(0, 9, -1, -1, -1));
        due(NONE, x.gate(0, -1, -1, -1, -1));
        due(NONE, x.gate(0, LEAST, 0, 0, 0));
        due(NONE, x.gate(0, AND, 0, 7, -1));
        due(NONE, x.gate(0, AND, 0, -1, -1));
        due(NONE, x.gate(0, AND, -1, 0, -1));
        due(NONE, x.gate(0, AND, MOST, 0, -1));
        due(NONE, x.gate(1, AND, 0, 4, -1));
        due(NONE, x.gate(0, MUX, 0, 0, -1));
        due(NONE, x.gate(0, NOT, 0, 0, -1));
        due(NONE, x.gate(0, NOT, 0, -1, 0));
        due(NONE, x.gate(0, AND, 0, 0, 0));
        due(NONE, x.gate(0, ONE, 0, -1, -1));
        due(NONE, x.gate(0, ONE, -2, -1, -1));
        due(4, x.count(3));
        due(1, x.count(4));
        for (int g = 7; g < 43; g++) due(g, x.gate(0, NAND, g - 1, 0, -1));
        due(FULL, x.gate(0, NAND, 0, 0, -1));
        due(NONE, x.gate(0, NAND, 0, 43, -1));
        for (int g = 4; g < 27; g++) due(g, x.gate(1, NOT, g - 1, -1, -1));
        due(FULL, x.gate(1, NOT, 0, -1, -1));
        due(40, x.count(3));
        due(24, x.count(4));
        // a GATE that is made drops the PATCH, in OLD and in WISH
        for (int net = 0; net < 2; net++) {
            x = Nets.andTo(OR);
            due(1, x.patch(2, -1, 0, 1, -1));
            due(3, x.gate(net, NOT, 0, -1, -1));
            due(NONE, x.patched(0));
        }
    }

    private static void p4() {
        begin(4);
        GatePatch x = new GatePatch();
        x.gate(0, AND, 0, 1, -1);
        x.gate(0, MUX, 3, 0, 1);
        x.gate(0, NOT, 4, -1, -1);
        due(NONE, x.rewire(2, 3, 0, 0));
        due(NONE, x.rewire(0, 2, 0, 0));
        due(NONE, x.rewire(0, 6, 0, 0));
        due(NONE, x.rewire(0, 3, 2, 0));
        due(NONE, x.rewire(0, 3, -1, 0));
        due(NONE, x.rewire(0, 4, 3, 0));
        due(NONE, x.rewire(0, 3, 0, 6));
        due(NONE, x.rewire(0, 3, 0, -1));
        due(NONE, x.rewire(1, 3, 0, 0));
        due(RING, x.rewire(0, 3, 0, 3));
        due(RING, x.rewire(0, 3, 1, 5));
        due(RING, x.rewire(0, 4, 2, 5));
        due(1, x.rewire(0, 3, 1, 2));
        due(3, x.rewire(0, 4, 0, 2));
        // now 3 may come behind 5, against the order of their numbers
        due(0, x.rewire(0, 3, 0, 5));
        due(5, x.rewire(0, 3, 0, 5));
        due(1, x.hangs(0, 3, 4));
        due(RING, x.rewire(0, 4, 1, 3));
        // 4 is MUX(x2, x0, x1), 5 its NOT, 3 is AND(5, x2)
        due(0, x.value(0, 3, 5));
        due(1, x.value(0, 3, 6));
        x = Nets.andTo(OR);
        due(1, x.patch(2, -1, 0, 1, -1));
        due(0, x.rewire(1, 2, 0, 0));
        due(NONE, x.patched(0));
    }

    private static void p5and6() {
        begin(5);
        GatePatch x = new GatePatch();
        x.begin(1, 2, 3);
        x.gate(0, NOT, 0, -1, -1);
        due(0, x.out(0, 2, 3));
        due(3, x.out(0, 2, 1));
        due(0, x.out(1, 2, 2));
        due(NONE, x.out(1, 2, 3));
        due(NONE, x.out(0, 3, 0));
        due(NONE, x.out(0, -1, 0));
        due(NONE, x.out(2, 0, 0));
        due(NONE, x.out(0, 0, 4));
        due(NONE, x.out(0, 0, -1));
        due(1, x.out(0, 2, 0));
        begin(6);
        due(0, x.next(0, 0, 3));
        due(0, x.next(0, 1, 2));
        due(3, x.next(0, 0, 1));
        due(0, x.next(1, 1, 1));
        due(NONE, x.next(0, 2, 0));
        due(NONE, x.next(0, -1, 0));
        due(NONE, x.next(2, 0, 0));
        due(NONE, x.next(-1, 0, 0));
        due(NONE, x.next(1, 0, 3));
        due(NONE, x.next(0, 0, LEAST));
        due(2, x.next(0, 1, 0));
        GatePatch y = new GatePatch();
        due(NONE, y.next(0, 0, 0));
        for (int net = 0; net < 2; net++) {
            x = Nets.andTo(OR);
            begin(5);
            due(1, x.patch(2, -1, 0, 1, -1));
            due(2, x.out(net, 0, 2));
            due(NONE, x.patched(0));
            begin(6);
            x = new GatePatch();
            x.begin(1, 1, 1);
            x.gate(0, NOT, 0, -1, -1);
            due(0, x.patch(2, -1, -1, -1, -1));
            due(0, x.next(net, 0, 1));
            due(NONE, x.patched(0));
        }
    }

    private static void p7() {
        begin(7);
        GatePatch x = Nets.andTo(OR);
        due(1, x.free(1));
        due(1, x.free(3));
        due(2, x.count(5));
        due(0, x.free(1));
        due(1, x.count(5));
        due(NONE, x.free(4));
        due(NONE, x.free(-1));
        due(NONE, x.free(MOST));
        due(1, x.free(1));
        due(2, x.differ());
        due(1, x.free(2));
        due(SAME, x.differ());
        x = Nets.andTo(OR);
        due(1, x.patch(2, -1, 0, 1, -1));
        due(NONE, x.free(4));
        due(1, x.patched(0));
        due(1, x.free(0));
        due(NONE, x.patched(0));
        x.begin(8, 0, 1);
        due(1, x.free(255));
        due(1, x.free(64));
        due(2, x.count(5));
        due(0, x.free(255));
    }

    private static void p8() {
        begin(8);
        GatePatch x = new GatePatch();
        int[] rows = {0x55, 0x88, 0xEE, 0x66, 0x77, 0x11, 0xD8, 0, 0xFF};
        for (int kind = 0; kind < 9; kind++) {
            int wire = x.gate(1, kind, kind < 7 ? 0 : -1, kind > 0 && kind < 7 ? 1 : -1, kind == 6 ? 2 : -1);
            for (int k = 0; k < 8; k++) due(rows[kind] >> k & 1, x.value(1, wire, k));
        }
        for (int k = 0; k < 8; k++) for (int w = 0; w < 3; w++) due(k >> w & 1, x.value(0, w, k));
        due(NONE, x.value(2, 0, 0));
        due(NONE, x.value(0, 3, 0));
        due(NONE, x.value(0, -1, 0));
        due(NONE, x.value(1, 0, 8));
        due(NONE, x.value(1, 0, -1));
        x.free(0);
        due(1, x.value(1, 3, 0));
        x.begin(6, 2, 1);
        due(1, x.value(0, 7, 128));
        due(0, x.value(0, 7, 127));
        due(1, x.value(0, 6, 255));
    }

    private static void p9() {
        begin(9);
        GatePatch x = new GatePatch();
        x.gate(0, NAND, 0, 1, -1);
        due(0x77, x.row(0, 3, 0));
        for (int part = 1; part < 4; part++) due(0, x.row(0, 3, part));
        due(1, Nets.rowThrows(x, 0, 4, 0));
        due(1, Nets.rowThrows(x, 0, -1, 0));
        due(1, Nets.rowThrows(x, 1, 3, 0));
        due(1, Nets.rowThrows(x, 2, 0, 0));
        due(1, Nets.rowThrows(x, 0, 0, 4));
        due(1, Nets.rowThrows(x, 0, 0, -1));
        due(0, Nets.rowThrows(x, 0, 0, 3));
        x.begin(6, 1, 1);
        x.gate(0, ONE, -1, -1, -1);
        due(-1L, x.row(0, 7, 0));
        due(-1L, x.row(0, 7, 1));
        due(0, x.row(0, 7, 2));
        x.begin(8, 0, 1);
        due(0xAAAAAAAAAAAAAAAAL, x.row(1, 0, 3));
        due(0xFFFFFFFF00000000L, x.row(1, 5, 0));
        due(0, x.row(1, 6, 2));
        due(-1L, x.row(1, 6, 3));
        due(0, x.row(1, 7, 1));
        due(-1L, x.row(1, 7, 2));
        x.gate(1, NOT, 7, -1, -1);
        due(-1L, x.row(1, 8, 1));
    }

    private static void p10() {
        begin(10);
        GatePatch x = new GatePatch();
        x.gate(0, MUX, 0, 0, 1);
        x.gate(0, NOT, 3, -1, -1);
        x.gate(0, NOT, 2, -1, -1);
        due(1, x.hangs(0, 4, 1));
        due(1, x.hangs(0, 4, 3));
        due(1, x.hangs(0, 4, 4));
        due(0, x.hangs(0, 3, 4));
        due(0, x.hangs(0, 4, 2));
        due(0, x.hangs(0, 5, 4));
        due(1, x.hangs(0, 1, 1));
        due(0, x.hangs(0, 1, 0));
        due(NONE, x.hangs(2, 0, 0));
        due(NONE, x.hangs(0, 6, 0));
        due(NONE, x.hangs(0, 0, 6));
        due(NONE, x.hangs(0, -1, 0));
        due(NONE, x.hangs(0, 0, -1));
        due(NONE, x.hangs(1, 3, 3));
        due(2, x.rewire(0, 5, 0, 0));
        due(0, x.hangs(0, 5, 2));
        // a NEXT is not hung on by its store
        x.begin(1, 1, 1);
        x.gate(0, NOT, 0, -1, -1);
        x.next(0, 0, 2);
        due(0, x.hangs(0, 1, 2));
    }

    // ---- points ----

    private static void p11() {
        begin(11);
        GatePatch x = Nets.andTo(XOR);
        due(1, x.differ());
        x.free(1);
        due(2, x.differ());
        x.free(2);
        due(3, x.differ());
        x.free(3);
        due(SAME, x.differ());
        // the last of the OBSERVED is the NEXT of the last store
        x.begin(5, 2, 2);
        x.next(0, 1, 6);
        due(1, x.differ());
        x.next(1, 1, 5);
        due(32, x.differ());
        x.begin(8, 0, 1);
        x.out(0, 0, 7);
        x.out(1, 0, 7);
        x.gate(1, ONE, -1, -1, -1);
        x.gate(1, AND, 7, 8, -1);
        x.out(1, 0, 9);
        due(SAME, x.differ());
        x.rewire(1, 9, 1, 6);
        due(128, x.differ());
    }

    private static void p12() {
        begin(12);
        GatePatch x = new GatePatch();
        x.begin(2, 0, 2);
        x.gate(0, AND, 0, 1, -1);
        x.gate(0, OR, 0, 1, -1);
        x.gate(0, NOT, 2, -1, -1);
        x.out(0, 0, 4);
        x.out(0, 1, 3);
        x.gate(1, XOR, 0, 1, -1);
        x.out(1, 0, 2);
        x.out(1, 1, 2);
        // outputs of OLD: NAND, OR; both shall be XOR
        due(0, x.enough(3, -1, -1));
        due(3, x.enough(2, -1, -1));
        due(SAME, x.enough(2, 3, -1));
        due(SAME, x.enough(3, 4, -1));
        due(SAME, x.enough(2, 3, 4));
        due(3, x.enough(2, 4, -1));
        x.free(3);
        due(SAME, x.enough(2, 4, -1));
        due(SAME, x.enough(4, -1, -1));
        for (int k = 0; k < 3; k++) x.free(k);
        due(SAME, x.enough(3, -1, -1));
        due(NONE, x.enough(-1, -1, -1));
        due(NONE, x.enough(1, -1, -1));
        due(NONE, x.enough(5, -1, -1));
        due(NONE, x.enough(3, 3, -1));
        due(NONE, x.enough(3, 2, -1));
        due(NONE, x.enough(2, 5, -1));
        due(NONE, x.enough(2, -2, -1));
        due(NONE, x.enough(2, -1, 3));
        due(NONE, x.enough(2, 3, 3));
        due(NONE, x.enough(2, 4, 3));
        due(NONE, x.enough(2, 3, 5));
        due(NONE, x.enough(-1, 2, 3));
        due(NONE, x.enough(LEAST, -1, -1));
    }

    private static void p13and14() {
        begin(13);
        GatePatch x = new GatePatch();
        x.begin(2, 0, 3);
        for (int g = 0; g < 4; g++) x.gate(0, AND, 0, 1, -1);
        for (int o = 0; o < 3; o++) x.out(0, o, 3 + o);
        due(NONE, x.points(0));
        due(NONE, x.points(4));
        due(NONE, x.points(LEAST));
        due(1, x.differ());
        // WISH's outputs are all WIRE 0, so all three of OLD's have to change
        due(UNABLE, x.points(2));
        due(NONE, x.point(0));
        due(3, x.points(3));
        begin(14);
        due(3, x.point(0));
        due(4, x.point(1));
        due(5, x.point(2));
        due(NONE, x.point(3));
        due(NONE, x.point(-1));
        begin(13);
        due(UNABLE, x.points(1));
        due(5, x.point(2));
        due(4, x.out(0, 1, 0));
        due(2, x.points(3));
        due(3, x.point(0));
        due(5, x.point(1));
        due(NONE, x.point(2));
        x.out(0, 0, 0);
        x.out(0, 2, 0);
        due(0, x.points(1));
        due(NONE, x.points(0));
        due(0, x.points(3));
        begin(14);
        due(5, x.point(1));
        x.begin(2, 0, 3);
        due(NONE, x.point(0));
        // smaller sets first, then the first GATE: 2 alone is ahead of 3 alone
        begin(13);
        x = new GatePatch();
        x.begin(1, 0, 1);
        x.gate(0, NOT, 0, -1, -1);
        x.gate(0, NOT, 1, -1, -1);
        x.gate(0, NOT, 2, -1, -1);
        x.out(0, 0, 3);
        due(1, x.points(3));
        due(1, x.point(0));
        x = new GatePatch();
        x.out(1, 0, 1);
        due(UNABLE, x.points(3));
    }

    /** Nearly the last three of 40 GATES, 256 CASES: about the dearest search there is. */
    private static void p13manyGates() {
        begin(13);
        GatePatch x = new GatePatch();
        x.begin(8, 0, 3);
        for (int g = 8; g < 45; g++) x.gate(0, 1 + g % 5, g - 1, g % 8, -1);
        for (int g = 45; g < 48; g++) x.gate(0, XOR, g - 1, g % 8, -1);
        for (int o = 0; o < 3; o++) x.out(0, o, 45 + o);
        x.gate(1, MUX, 0, 6, 7);
        for (int o = 0; o < 3; o++) x.out(1, o, o == 1 ? 8 : o);
        // 45 is XOR of 44 and an input, so 44 does for it
        due(UNABLE, x.points(2));
        due(3, x.points(3));
        due(44, x.point(0));
        due(46, x.point(1));
        due(47, x.point(2));
    }

    private static void p15() {
        begin(15);
        GatePatch x = new GatePatch();
        x.begin(2, 0, 2);
        x.gate(0, AND, 0, 1, -1);
        x.gate(0, OR, 0, 1, -1);
        x.gate(0, XOR, 2, 3, -1);
        x.out(0, 0, 4);
        x.out(0, 1, 2);
        // WISH: both outputs are input 0, so 2 is it and 3 is 0
        due(0, x.mend(2, 3, -1, 0));
        due(1, x.mend(2, 3, -1, 1));
        due(0, x.mend(2, 3, -1, 2));
        due(1, x.mend(2, 3, -1, 3));
        due(3, x.mend(2, 4, -1, 3));
        due(0, x.mend(2, 4, -1, 2));
        due(5, x.mend(2, 3, 4, 1));
        due(UNABLE, x.mend(3, -1, -1, 1));
        due(0, x.mend(3, -1, -1, 3));
        due(0, x.mend(3, -1, -1, 0));
        due(1, x.mend(4, -1, -1, 3));
        x.free(1);
        due(1, x.mend(2, 3, -1, 1));
        due(NONE, x.mend(2, 3, -1, 4));
        due(NONE, x.mend(2, 3, -1, -1));
        due(NONE, x.mend(3, 2, -1, 0));
        due(NONE, x.mend(1, -1, -1, 0));
        due(NONE, x.mend(2, -1, 3, 0));
    }

    private static void p16() {
        begin(16);
        GatePatch x = Nets.andTo(NOR);
        x.gate(0, NOT, 2, -1, -1);
        x.gate(0, AND, 2, 3, -1);
        due(UNABLE, x.witness(0, 3, -1, -1));
        due(NONE, x.witness(6, 2, -1, -1));
        due(NONE, x.witness(-1, 2, -1, -1));
        due(NONE, x.witness(0, 1, -1, -1));
        due(NONE, x.witness(0, 2, 5, -1));
        due(0, x.clear(0));
        due(4, x.witness(0, 2, -1, -1));
        due(1, x.at(0, 0));
        due(0, x.at(0, 1) + x.at(0, 2) + x.at(0, 3));
        due(2, Nets.atThrows(x, 0, 4));
        due(1, x.clear(0));
        x.free(0);
        x.tape(5, 4, 200);
        due(4, x.witness(5, 2, -1, -1));
        due(0, x.at(5, 0));
        due(2, Nets.atThrows(x, 5, 4));
        due(UNABLE, x.witness(5, 3, -1, -1));
        due(1, x.clear(5));
        x.begin(8, 0, 1);
        x.gate(0, AND, 0, 1, -1);
        x.out(0, 0, 8);
        x.out(1, 0, 7);
        due(256, x.witness(1, 8, -1, -1));
        due(0, x.at(1, 127));
        due(1, x.at(1, 128) * x.at(1, 255));
    }

    private static void p17() {
        begin(17);
        GatePatch x = Nets.andTo(OR);
        x.gate(0, NOT, 0, -1, -1);
        due(NONE, x.judge(6, 2, -1, -1));
        due(NONE, x.judge(-1, 2, -1, -1));
        due(NONE, x.judge(0, 1, -1, -1));
        due(NONE, x.judge(0, 3, 2, -1));
        due(NOTHING, x.judge(0, 2, -1, -1));
        x.image(1);
        due(CAST, x.judge(1, 2, -1, -1));
        x.tape(1, 2, 4);
        due(CAST, x.judge(1, 2, -1, -1));
        due(4, x.witness(0, 2, -1, -1));
        due(SAME, x.judge(0, 2, -1, -1));
        x.put(0, 2, 0);
        due(2, x.judge(0, 2, -1, -1));
        x.put(0, 2, 2);
        due(2, x.judge(0, 2, -1, -1));
        due(2, x.judge(0, 2, 3, -1));
        x.put(0, 2, 3);
        due(2, x.judge(0, 2, -1, -1));
        due(SAME, x.judge(0, 2, 3, -1));
        x.put(0, 2, -1);
        due(2, x.judge(0, 2, -1, -1));
        x.put(0, 1, -128);
        due(1, x.judge(0, 2, -1, -1));
        x.free(1);
        due(2, x.judge(0, 2, -1, -1));
        p17lengths(x);
    }

    private static void p17lengths(GatePatch x) {
        x.free(1);
        x.tape(0, 1, 3);
        x.put(0, 1, 1);
        x.put(0, 2, 1);
        due(PLACE, x.judge(0, 2, -1, -1));
        x.put(0, 0, 1);
        due(0, x.judge(0, 2, -1, -1));
        x.put(0, 0, 0);
        x.free(3);
        due(SAME, x.judge(0, 2, -1, -1));
        x.tape(0, 1, 0);
        due(PLACE, x.judge(0, 2, -1, -1));
        x.free(0);
        x.free(1);
        x.free(2);
        due(SAME, x.judge(0, 2, -1, -1));
        x.tape(0, 1, 256);
        due(SAME, x.judge(0, 2, -1, -1));
        due(5, x.count(10));
    }

    // ---- patches ----

    private static void p18refusals() {
        begin(18);
        GatePatch x = Nets.andTo(OR);
        x.gate(0, NOT, 2, -1, -1);
        x.gate(0, OR, 0, 1, -1);
        due(1, x.patch(2, -1, 0, 1, -1));
        due(NONE, x.patch(-1, -1, 0, 1, -1));
        due(NONE, x.patch(1, -1, 0, 1, -1));
        due(NONE, x.patch(5, -1, 0, 1, -1));
        due(NONE, x.patch(2, 2, 0, 1, -1));
        due(NONE, x.patch(3, 2, 0, 1, -1));
        due(NONE, x.patch(2, 5, 0, 1, -1));
        due(NONE, x.patch(2, -2, 0, 1, -1));
        due(NONE, x.patch(2, -1, 1, 0, -1));
        due(NONE, x.patch(2, -1, 0, 0, -1));
        due(NONE, x.patch(2, -1, 0, 1, 1));
        due(NONE, x.patch(2, -1, -1, 0, 1));
        due(NONE, x.patch(2, -1, 0, -1, 1));
        due(NONE, x.patch(2, -1, -1, -1, 0));
        due(NONE, x.patch(2, -1, 0, 5, -1));
        due(NONE, x.patch(2, -1, -2, -1, -1));
        due(NONE, x.patch(2, -1, 3, 0, -1));
        due(RING, x.patch(2, -1, 0, 2, -1));
        due(RING, x.patch(2, -1, 0, 3, 4));
        due(RING, x.patch(2, 4, 0, 1, 4));
        // what was refused left the PATCH as it was
        due(14, x.function(0));
        due(2, x.patched(2));
        due(0, x.patch(2, -1, 4, -1, -1));
        due(UNABLE, x.patch(2, -1, 0, -1, -1));
        due(NONE, x.patched(0));
        // 3 is NOT of the POINT 2 itself: with both as POINTS 2 alone is observed
        due(1, x.patch(2, 3, 0, 1, -1));
        due(14, x.function(0));
        due(0, x.function(1));
    }

    private static void p18functions() {
        begin(18);
        int[][] rows = {{0, 0}, {255, 0}, {0xAA, 0}, {0xF0, 0}, {0x55, 1}, {150, 2}, {105, 3}, {232, 4}, {1, 2}, {0xCA, 3}, {22, 4}};
        for (int[] r : rows) {
            GatePatch x = Nets.zeroTo(r[0]);
            due(r[1], x.patch(3, -1, 0, 1, 2));
            due(r[0], x.function(0));
            due(r[1], x.patched(0));
            due(r[0] == 0 || r[0] == 255 ? 1 : r[1], x.apply());
            due(SAME, x.differ());
        }
        // of two functions that cost the same the least number, among those that FREE leaves
        GatePatch x = Nets.zeroTo(0x96);
        for (int k = 0; k < 8; k++) if (k != 3 && k != 1) x.free(k);
        due(1, x.patch(3, -1, 0, 1, 2));
        // 1 at case 1 and 0 at case 3: NOR of x1, x2 is 3, which is the least with COST 1
        due(3, x.function(0));
        due(1, x.patch(3, -1, 0, 1, -1));
        due(3, x.function(0));
        due(1, x.patch(3, -1, 1, -1, -1));
        due(1, x.function(0));
        due(UNABLE, x.patch(3, -1, 0, 2, -1));
    }

    private static void p18twoPoints() {
        begin(18);
        // output 0 is XOR of two POINTS, output 1 is the second of them
        GatePatch x = new GatePatch();
        x.begin(3, 0, 2);
        x.gate(0, ZERO, -1, -1, -1);
        x.gate(0, ONE, -1, -1, -1);
        x.gate(0, XOR, 3, 4, -1);
        x.out(0, 0, 5);
        x.out(0, 1, 4);
        x.gate(1, AND, 0, 1, -1);
        x.gate(1, XOR, 2, 3, -1);
        x.out(1, 0, 4);
        x.out(1, 1, 3);
        due(1, x.patch(3, 4, 0, 1, 2));
        due(0xF0, x.function(0));
        due(0x88, x.function(1));
        due(2, x.patched(1));
        due(3, x.patch(4, 5, 0, 1, 2));
        due(0x88, x.function(0));
        due(0x78, x.function(1));
        // XOR of the two alone is observed: the least sum, then the least first function
        x.out(0, 1, 0);
        x.out(1, 1, 0);
        x.out(1, 0, 3);
        due(1, x.patch(3, 4, 0, 1, -1));
        due(0, x.function(0));
        due(8, x.function(1));
        due(1, x.patched(0));
        x.out(1, 0, 0);
        due(0, x.patch(3, 4, 0, 1, -1));
        due(0, x.function(0));
        due(10, x.function(1));
        x.free(0);
        x.free(1);
        x.free(2);
        x.free(3);
        x.free(4);
        x.free(5);
        x.free(6);
        x.free(7);
        due(0, x.patch(3, 4, 0, 1, 2));
        due(0, x.function(0) + x.function(1));
    }

    private static void p18kept() {
        begin(18);
        GatePatch x = Nets.andTo(OR);
        x.spare(OR, 0, 0);
        due(1, x.patch(2, -1, 0, 1, -1));
        due(0, x.place());
        due(1, x.patched(3));
        due(1, x.patch(2, -1, 0, 1, -1));
        due(0, x.patched(3));
        due(1, x.mark(0, 2));
        due(1, x.delay(OR, 2));
        due(4, x.witness(0, 2, -1, -1));
        due(1, x.image(1));
        due(1, x.points(1));
        due(1, x.patched(0));
        due(1, x.back(1));
        due(NONE, x.patched(0));
        due(1, x.patch(2, -1, 0, 1, -1));
        due(0, x.site(1, 3, 3));
        due(NONE, x.patched(0));
        due(1, x.patch(2, -1, 0, 1, -1));
        due(1, x.spare(AND, 3, 3));
        due(NONE, x.patched(0));
    }

    private static void p18free() {
        begin(18);
        // a PATTERN whose CASES are all FREE allows everything
        GatePatch x = Nets.andTo(XOR);
        x.free(3);
        due(1, x.patch(2, -1, 0, 1, -1));
        due(6, x.function(0));
        x.free(0);
        due(0, x.patch(2, -1, 0, 1, -1));
        due(15, x.function(0));
        due(0, x.patch(2, -1, -1, -1, -1));
        due(1, x.function(0));
    }

    private static void p19() {
        begin(19);
        GatePatch x = Nets.andTo(XOR);
        due(NONE, x.clash(0));
        due(UNABLE, x.patch(2, -1, 0, -1, -1));
        // cases 0, 1, 2, 3 want 0, 1, 1, 0; by input 0 case 2 clashes with case 0
        due(0, x.clash(0));
        due(2, x.clash(1));
        due(NONE, x.clash(2));
        due(NONE, x.clash(-1));
        due(1, x.patch(2, -1, 0, 1, -1));
        due(2, x.clash(1));
        x.free(0);
        due(UNABLE, x.patch(2, -1, 0, -1, -1));
        due(1, x.clash(0));
        due(3, x.clash(1));
        due(RING, x.patch(2, -1, 2, -1, -1));
        due(UNABLE, x.best(2));
        due(3, x.clash(1));
        // a CASE that nothing mends clashes with the first one of its PATTERN, or with itself
        x.free(0);
        x.gate(0, NOT, 0, -1, -1);
        due(UNABLE, x.patch(3, -1, 1, -1, -1));
        due(0, x.clash(0));
        due(1, x.clash(1));
        due(UNABLE, x.patch(3, -1, 0, 1, -1));
        due(1, x.clash(0));
        due(1, x.clash(1));
        // three cases that want 0, 1, 0 by no WIRE: the second one clashes
        due(UNABLE, x.patch(2, -1, -1, -1, -1));
        due(0, x.clash(0));
        due(1, x.clash(1));
        x.begin(2, 0, 1);
        due(NONE, x.clash(0));
        due(NONE, x.clash(1));
    }

    private static void p20() {
        begin(20);
        GatePatch x = new GatePatch();
        for (int g = 0; g < 8; g++) x.gate(0, NOT, 0, -1, -1);
        for (int w = 0; w < 9; w++) due(w + 1, x.mark(w, w));
        due(9, x.mark(3, 0));
        due(10, x.mark(9, 9));
        due(FULL, x.mark(10, 0));
        due(10, x.mark(9, 1));
        due(10, x.mark(3, 5));
        due(10, x.mark(3, 0));
        due(10, x.mark(3, 0));
        due(10, x.mark(10, -1));
        due(9, x.mark(0, -1));
        due(9, x.mark(0, -1));
        due(10, x.mark(10, 0));
        due(NONE, x.mark(11, 0));
        due(NONE, x.mark(-1, 0));
        due(NONE, x.mark(0, 10));
        due(NONE, x.mark(0, -2));
        due(NONE, x.mark(11, -1));
        due(FULL, x.mark(0, 0));
        // changes of OLD leave MARKS; undo() and back() take those of the WIRES that go
        x = Nets.andTo(OR);
        x.image(0);
        due(1, x.patch(2, -1, 0, 1, -1));
        due(1, x.apply());
        due(1, x.mark(3, 4));
        due(2, x.mark(2, 4));
        due(0, x.undo());
        due(1, x.mark(0, -1));
        due(3, x.gate(0, NOT, 0, -1, -1));
        due(4, x.gate(0, NOT, 0, -1, -1));
        due(1, x.mark(4, -1));
        due(2, x.mark(4, 1));
        due(3, x.mark(1, 1));
        due(1, x.back(0));
        due(2, x.mark(0, -1));
        due(4, x.begin(2, 0, 1));
        due(1, x.mark(0, 0));
    }

    private static void p21() {
        begin(21);
        GatePatch x = Nets.andTo(OR);
        x.gate(0, OR, 0, 1, -1);
        x.gate(0, NOT, 2, -1, -1);
        due(NONE, x.best(1));
        due(NONE, x.best(5));
        due(NONE, x.best(-1));
        due(UNABLE, x.best(2));
        x.mark(0, 3);
        due(UNABLE, x.best(2));
        x.mark(1, 2);
        x.mark(2, 0);
        x.mark(4, 0);
        due(15, x.best(2));
        due(14, x.function(0));
        due(2, x.patched(2));
        due(0, x.told(0));
        due(1, x.told(1));
        due(0, x.patched(3));
        x.mark(3, 9);
        due(9, x.best(2));
        due(1, x.patched(2));
        due(3, x.told(0));
        due(2, x.function(0));
        due(0, x.patched(0));
        due(UNABLE, x.best(4));
        due(NONE, x.patched(0));
        due(NONE, x.clash(0));
        due(9, x.best(2));
        due(0, x.apply());
        due(SAME, x.differ());
    }

    private static void p21order() {
        begin(21);
        // the output is 1 wherever it isn't FREE: no WIRE at all is wanted, and none beats one for nothing
        GatePatch x = Nets.andTo(OR);
        x.free(0);
        x.mark(0, 0);
        x.mark(1, 0);
        due(0, x.best(2));
        due(0, x.patched(2));
        due(1, x.function(0));
        // three twins of one GATE at one price: the first; then, by a lesser price, the last
        x = Nets.andTo(OR);
        for (int g = 0; g < 3; g++) x.gate(0, OR, 0, 1, -1);
        for (int w = 5; w > 2; w--) x.mark(w, 5);
        due(5, x.best(2));
        due(3, x.told(0));
        x.mark(5, 4);
        due(4, x.best(2));
        due(5, x.told(0));
        // 10 for a GATE: NOR of two with 9 each and a NOT is 28 or more; a single WIRE with NOT is 19
        x.mark(3, -1);
        x.mark(4, -1);
        x.mark(5, -1);
        x.gate(0, NOR, 0, 1, -1);
        x.mark(6, 9);
        x.mark(0, 9);
        x.mark(1, 9);
        due(19, x.best(2));
        due(6, x.told(0));
        due(1, x.function(0));
        x.mark(0, 4);
        x.mark(1, 5);
        due(19, x.best(2));
        due(1, x.patched(2));
        x.mark(1, 4);
        due(18, x.best(2));
        due(2, x.patched(2));
        // a set of three WIRES; sets of equal sums and sizes by their WIRES
        x = Nets.zeroTo(150);
        x.gate(0, XOR, 0, 0, -1);
        x.gate(0, OR, 1, 1, -1);
        for (int w = 0; w < 6; w++) if (w != 3) x.mark(w, 1);
        due(23, x.best(3));
        due(0, x.told(0));
        due(1, x.told(1));
        due(2, x.told(2));
        x.mark(1, 2);
        due(23, x.best(3));
        due(2, x.told(1));
        due(5, x.told(2));
    }

    private static void p22to25() {
        begin(22);
        GatePatch x = Nets.zeroTo(150);
        for (int what = 0; what < 4; what++) due(NONE, x.patched(what));
        begin(23);
        due(NONE, x.function(0));
        begin(24);
        due(NONE, x.told(0));
        begin(25);
        due(NONE, x.node(0, 0));
        due(2, x.patch(3, -1, 0, 1, 2));
        begin(22);
        due(2, x.patched(0));
        due(1, x.patched(1));
        due(3, x.patched(2));
        due(0, x.patched(3));
        due(NONE, x.patched(4));
        due(NONE, x.patched(-1));
        begin(23);
        due(150, x.function(0));
        due(NONE, x.function(1));
        due(NONE, x.function(-1));
        begin(24);
        for (int j = 0; j < 3; j++) due(j, x.told(j));
        due(NONE, x.told(3));
        due(NONE, x.told(-1));
        due(NONE, x.told(LEAST));
        begin(25);
        // 150: NOT over 105 would cost 3; XOR with the least g: NOT-free, of COST 0 or 1: 60 = XOR(1, 2)
        due(XOR, x.node(0, 0));
        due(101, x.node(0, 1));
        due(102, x.node(0, 2));
        due(XOR, x.node(1, 0));
        due(0, x.node(1, 1));
        due(100, x.node(1, 2));
        due(0, x.node(0, 3));
        due(-2, x.node(0, 4));
        due(NONE, x.node(0, 5));
        due(NONE, x.node(0, -1));
        due(NONE, x.node(2, 0));
        due(NONE, x.node(-1, 0));
        x = Nets.zeroTo(0x33);
        due(1, x.patch(3, -1, 1, -1, -1));
        due(NOT, x.node(0, 0));
        due(100, x.node(0, 1));
        due(-2, x.node(0, 2));
        x.spare(NOT, 1, 1);
        due(1, x.patch(3, -1, 1, -1, -1));
        due(-2, x.node(0, 4));
        due(4, x.place());
        due(0, x.node(0, 4));
        due(1, x.patched(3));
    }

    private static void p25order() {
        begin(25);
        // majority, 232, costs 4. AND comes first: g AND h with COSTS that add to 3; g the least: 168 (0 AND (1 OR 2))
        // is no part of an AND for 232; 232 = g AND h wants g, h above 232 in each bit: 234 = 0 OR (1 AND 2)
        // costs 2, with h = 252 = 1 OR 2, which costs 1: 234 AND 252 = 232. Less than 234: 232 only. So g = 234.
        GatePatch x = Nets.zeroTo(232);
        due(4, x.patch(3, -1, 0, 1, 2));
        due(AND, x.node(3, 0));
        due(1, x.node(3, 1));
        due(2, x.node(3, 2));
        due(OR, x.node(2, 0));
        due(101, x.node(2, 1));
        due(102, x.node(2, 2));
        // 234 costs 2; NOT over 21 (COST 2) is no less; AND of 234's supersets: 238 AND 250, 1 + 1 = 2, too many;
        // OR: the least g in 234 with COST 0 or 1 is 136 (0 AND 1)? 136 OR h with COST 0: 170, 204, 240: none.
        // 160 neither; 170 OR h, COST 1: 192 = 1 AND 2
        due(OR, x.node(1, 0));
        due(100, x.node(1, 1));
        due(0, x.node(1, 2));
        due(AND, x.node(0, 0));
        due(101, x.node(0, 1));
        due(102, x.node(0, 2));
        // the second POINT's GATES come behind the first one's
        x = new GatePatch();
        x.begin(2, 0, 2);
        x.gate(0, ZERO, -1, -1, -1);
        x.gate(0, ZERO, -1, -1, -1);
        x.out(0, 0, 2);
        x.out(0, 1, 3);
        x.gate(1, NAND, 0, 1, -1);
        x.gate(1, NOR, 0, 1, -1);
        x.out(1, 0, 2);
        x.out(1, 1, 3);
        due(2, x.patch(2, 3, 0, 1, -1));
        due(NAND, x.node(0, 0));
        due(0, x.node(0, 3));
        due(NOR, x.node(1, 0));
        due(1, x.node(1, 3));
        due(7, x.function(0));
        due(1, x.function(1));
    }

    private static void p26() {
        begin(26);
        GatePatch x = new GatePatch();
        due(0, x.cost(0, 0));
        due(0, x.cost(0, 1));
        int[] one = {0, 1, 0, 0};
        for (int f = 0; f < 4; f++) due(one[f], x.cost(1, f));
        int[] two = {0, 1, 2, 1, 2, 1, 1, 1, 1, 2, 0, 2, 0, 2, 1, 0};
        for (int f = 0; f < 16; f++) due(two[f], x.cost(2, f));
        for (int m = 0; m <= 3; m++) for (int f = 0; f < Model.COSTS[m].length; f++) due(Model.COSTS[m][f], x.cost(m, f));
        due(NONE, x.cost(0, 2));
        due(NONE, x.cost(1, 4));
        due(NONE, x.cost(2, 16));
        due(NONE, x.cost(3, 256));
        due(NONE, x.cost(3, -1));
        due(NONE, x.cost(4, 0));
        due(NONE, x.cost(-1, 0));
        due(NONE, x.cost(LEAST, 0));
        due(NONE, x.cost(3, MOST));
    }

    // ---- places and ticks ----

    private static void p27() {
        begin(27);
        GatePatch x = new GatePatch();
        due(0, x.site(2, 31, 30));
        due(991, x.site(2, 0, 31));
        due(992, x.site(2, 0, 0));
        due(NONE, x.site(3, 0, 0));
        due(NONE, x.site(-1, 0, 0));
        due(NONE, x.site(0, 32, 0));
        due(NONE, x.site(0, 0, 32));
        due(NONE, x.site(0, -1, 0));
        due(NONE, x.site(0, 0, -1));
        due(3, x.gate(0, NOT, 0, -1, -1));
        due(0, x.site(3, 5, 1));
        due(37, x.site(3, 5, 1));
        x.begin(3, 0, 1);
        due(0, x.image(0));
        x.gate(0, NOT, 0, -1, -1);
        x.site(3, 9, 9);
        x.back(0);
        x.gate(0, NOT, 0, -1, -1);
        // a new GATE with an old number has a new place
        due(0, x.site(3, 0, 0));
    }

    private static void p28() {
        begin(28);
        GatePatch x = new GatePatch();
        due(NONE, x.spare(6, 0, 0));
        due(NONE, x.spare(-1, 0, 0));
        due(NONE, x.spare(0, 32, 0));
        due(NONE, x.spare(0, -1, 0));
        due(NONE, x.spare(0, 0, 32));
        due(NONE, x.spare(0, 0, -1));
        for (int s = 0; s < 12; s++) {
            due(s, x.count(6));
            due(s, x.spare(s % 6, 31, 31));
        }
        due(FULL, x.spare(0, 0, 0));
        due(NONE, x.spare(6, 0, 0));
        due(12, x.count(6));
    }

    private static void p29() {
        begin(29);
        GatePatch x = Nets.andTo(OR);
        due(NONE, x.place());
        x.site(0, 2, 0);
        x.site(1, 0, 3);
        x.site(2, 10, 10);
        due(1, x.patch(2, -1, 0, 1, -1));
        due(SPARE, x.place());
        due(0, x.patched(3));
        x.spare(AND, 5, 5);
        x.spare(OR, 31, 31);
        due(1, x.patch(2, -1, 0, 1, -1));
        // (31, 31): 42 to (10, 10), 60 to (2, 0), 59 to (0, 3)
        due(161, x.place());
        due(1, x.node(0, 4));
        due(161, x.place());
        x.spare(OR, 5, 4);
        due(1, x.patch(2, -1, 0, 1, -1));
        // (5, 4): 11, 7, 6
        due(24, x.place());
        due(2, x.node(0, 4));
        due(1, x.patched(3));
        // a leaf ONE: no GATE, no length
        x = Nets.zeroTo(255);
        due(0, x.patch(3, -1, -1, -1, -1));
        due(0, x.place());
        due(1, x.patched(3));
        // a NOT has one part alone
        x = Nets.zeroTo(0x55);
        x.site(0, 4, 4);
        x.spare(NOT, 4, 0);
        due(1, x.patch(3, -1, 0, -1, -1));
        due(8, x.place());
    }

    private static void p29order() {
        begin(29);
        // two ANDS want a SPARE each; the sum counts, and of equal sums the first GATE's least SPARE
        GatePatch x = new GatePatch();
        x.begin(2, 0, 2);
        x.gate(0, ZERO, -1, -1, -1);
        x.gate(0, ZERO, -1, -1, -1);
        x.out(0, 0, 2);
        x.out(0, 1, 3);
        x.gate(1, AND, 0, 1, -1);
        x.out(1, 0, 2);
        x.out(1, 1, 2);
        x.site(3, 10, 0);
        x.spare(AND, 10, 0);
        x.spare(AND, 20, 0);
        due(2, x.patch(2, 3, 0, 1, -1));
        // lengths: the first GATE 10 or 20, the second 0 or 10, and 10 or 20 twice to the inputs: 80 in either way
        due(80, x.place());
        due(0, x.node(0, 4));
        due(1, x.node(1, 4));
        x.spare(AND, 0, 1);
        due(2, x.patch(2, 3, 0, 1, -1));
        // SPARE 2: 1 for the first GATE, 11 for the second, 2 to the inputs; best 2, 0: 1 + 2 + 0 + 20
        due(23, x.place());
        due(2, x.node(0, 4));
        due(0, x.node(1, 4));
        due(2, x.apply());
        due(1, x.used(0));
        due(0, x.used(1));
        due(1, x.used(2));
        // USED ones are no more to be had: one AND can be placed, two can't
        x.out(0, 0, 2);
        x.out(0, 1, 3);
        due(2, x.patch(2, 3, 0, 1, -1));
        due(SPARE, x.place());
        x.out(0, 1, 5);
        due(1, x.patch(2, -1, 0, 1, -1));
        due(60, x.place());
        due(1, x.node(0, 4));
    }

    private static void p30() {
        begin(30);
        GatePatch x = Nets.andTo(OR);
        due(NONE, x.used(0));
        x.spare(OR, 1, 1);
        due(0, x.used(0));
        due(NONE, x.used(1));
        due(NONE, x.used(-1));
        due(1, x.patch(2, -1, 0, 1, -1));
        due(6, x.place());
        due(0, x.used(0));
        due(1, x.apply());
        due(1, x.used(0));
        due(0, x.undo());
        due(0, x.used(0));
        // behind begin() a SPARE is a new one
        due(1, x.patch(2, -1, 0, 1, -1));
        due(6, x.place());
        due(1, x.apply());
        due(1, x.used(0));
        x.begin(2, 0, 1);
        x.spare(OR, 1, 1);
        due(0, x.used(0));
        // a PATCH that isn't PLACED uses none
        x = Nets.andTo(OR);
        x.spare(OR, 1, 1);
        due(1, x.patch(2, -1, 0, 1, -1));
        due(1, x.apply());
        due(0, x.used(0));
    }

    private static void p31and32() {
        begin(31);
        GatePatch x = new GatePatch();
        due(1, x.delay(NOT, 9));
        due(9, x.delay(NOT, 0));
        due(0, x.delay(NOT, 3));
        due(1, x.delay(ONE, 2));
        due(NONE, x.delay(9, 1));
        due(NONE, x.delay(-1, 1));
        due(NONE, x.delay(0, 10));
        due(NONE, x.delay(0, -1));
        due(3, x.delay(NOT, 3));
        begin(32);
        x.gate(0, NOT, 0, -1, -1);
        x.gate(0, ONE, -1, -1, -1);
        x.gate(0, MUX, 0, 1, 3);
        x.gate(0, AND, 4, 2, -1);
        due(0, x.arrive(0, 2));
        due(3, x.arrive(0, 3));
        due(2, x.arrive(0, 4));
        due(4, x.arrive(0, 5));
        due(3, x.arrive(0, 6));
        due(NONE, x.arrive(0, 7));
        due(NONE, x.arrive(0, -1));
        due(NONE, x.arrive(1, 3));
        due(NONE, x.arrive(2, 0));
        due(4, x.rewire(0, 6, 0, 5));
        due(5, x.arrive(0, 6));
        x.delay(AND, 0);
        due(4, x.arrive(0, 6));
        x.gate(1, NOT, 0, -1, -1);
        x.gate(1, NOT, 3, -1, -1);
        due(6, x.arrive(1, 4));
    }

    private static void p33() {
        begin(33);
        GatePatch x = new GatePatch();
        x.begin(1, 2, 2);
        x.gate(0, NOT, 0, -1, -1);
        x.gate(0, NOT, 3, -1, -1);
        x.out(0, 0, 3);
        x.out(0, 1, 4);
        x.next(0, 0, 4);
        due(3, x.late(0));
        due(2, x.late(1));
        due(0, x.late(2));
        due(0, x.late(MOST));
        due(NONE, x.late(-1));
        due(NONE, x.late(LEAST));
        x.delay(NOT, 5);
        due(2, x.late(9));
        x.gate(1, NOT, 0, -1, -1);
        x.next(1, 1, 3);
        due(3, x.late(4));
    }

    // ---- applying ----

    private static void p34() {
        begin(34);
        GatePatch x = Nets.andTo(NOR);
        x.gate(0, NOT, 2, -1, -1);
        x.gate(0, AND, 2, 2, -1);
        x.site(2, 7, 2);
        x.spare(NOR, 3, 1);
        due(NONE, x.apply());
        due(1, x.patch(2, -1, 0, 1, -1));
        due(1, x.apply());
        due(NONE, x.patched(0));
        due(NONE, x.apply());
        due(4, x.count(3));
        due(5, x.out(0, 0, 5));
        due(5, x.rewire(0, 3, 0, 5));
        due(5, x.rewire(0, 4, 1, 5));
        due(1, x.value(0, 5, 0));
        // not PLACED: at the POINT's place; the POINT stays where it is
        due(71, x.site(5, 0, 0));
        due(71, x.site(2, 7, 2));
        due(1, x.value(0, 2, 3));
        due(3, x.idle(0));
        x.out(0, 0, 2);
        due(1, x.patch(2, -1, 0, 1, -1));
        // 5 to the POINT, 4 to each input
        due(13, x.place());
        due(1, x.apply());
        // PLACED: at its SPARE's place
        due(35, x.site(6, 0, 0));
        due(SAME, x.differ());
    }

    private static void p34two() {
        begin(34);
        // the first POINT is a part of the second one: both are replaced
        GatePatch x = new GatePatch();
        x.begin(2, 0, 2);
        x.gate(0, AND, 0, 1, -1);
        x.gate(0, NOT, 2, -1, -1);
        x.out(0, 0, 2);
        x.out(0, 1, 3);
        x.gate(1, OR, 0, 1, -1);
        x.gate(1, XOR, 0, 1, -1);
        x.out(1, 0, 2);
        x.out(1, 1, 3);
        x.site(2, 1, 0);
        x.site(3, 2, 0);
        due(2, x.patch(2, 3, 0, 1, -1));
        due(2, x.apply());
        due(SAME, x.differ());
        due(4, x.out(0, 0, 4));
        due(5, x.out(0, 1, 5));
        due(1, x.site(4, 0, 0));
        due(2, x.site(5, 0, 0));
        due(4, x.rewire(0, 3, 0, 0));
        // a POINT with a leaf between: the other POINT's GATE has the next number
        x = new GatePatch();
        x.begin(2, 0, 2);
        x.gate(0, AND, 0, 1, -1);
        x.gate(0, OR, 0, 1, -1);
        x.out(0, 0, 2);
        x.out(0, 1, 3);
        x.gate(1, ONE, -1, -1, -1);
        x.out(1, 0, 1);
        x.out(1, 1, 2);
        due(0, x.patch(2, 3, 0, 1, -1));
        due(12, x.function(0));
        due(15, x.function(1));
        due(1, x.apply());
        due(1, x.out(0, 0, 1));
        due(4, x.out(0, 1, 4));
        due(15, x.row(0, 4, 0));
        due(SAME, x.differ());
    }

    private static void p34leaf() {
        begin(34);
        GatePatch x = Nets.andTo(OR);
        x.gate(0, OR, 0, 1, -1);
        x.spare(OR, 9, 9);
        x.site(2, 6, 6);
        due(0, x.patch(2, -1, 3, -1, -1));
        due(0, x.apply());
        due(3, x.out(0, 0, 3));
        due(2, x.count(3));
        // ZERO as a whole function is a GATE at the POINT's place, PLACED or not
        x = Nets.zeroTo(255);
        x.site(3, 6, 6);
        due(0, x.patch(3, -1, 0, 1, 2));
        due(0, x.place());
        due(1, x.apply());
        due(198, x.site(4, 0, 0));
        due(255, x.row(0, 4, 0));
        x.begin(1, 0, 1);
        x.gate(0, ONE, -1, -1, -1);
        x.gate(1, ZERO, -1, -1, -1);
        x.out(0, 0, 1);
        x.out(1, 0, 1);
        due(0, x.patch(1, -1, -1, -1, -1));
        due(0, x.function(0));
        due(1, x.apply());
        due(0, x.row(0, 2, 0));
        due(SAME, x.differ());
    }

    private static void p34full() {
        begin(34);
        GatePatch x = Nets.zeroTo(150);
        for (int g = 0; g < 37; g++) x.gate(0, NOT, 0, -1, -1);
        due(2, x.patch(3, -1, 0, 1, 2));
        due(2, x.apply());
        due(40, x.count(3));
        due(0, x.undo());
        x.gate(0, NOT, 0, -1, -1);
        due(2, x.patch(3, -1, 0, 1, 2));
        due(FULL, x.apply());
        due(2, x.patched(0));
        due(39, x.count(3));
        due(0, x.count(7));
        // a leaf ZERO or ONE wants room too, a leaf j does not
        x = Nets.zeroTo(255);
        for (int g = 0; g < 39; g++) x.gate(0, NOT, 0, -1, -1);
        due(0, x.patch(3, -1, -1, -1, -1));
        due(FULL, x.apply());
        x.out(1, 0, 1);
        due(0, x.patch(3, -1, 0, 1, 2));
        due(0, x.apply());
        due(SAME, x.differ());
    }

    private static void p35() {
        begin(35);
        GatePatch x = Nets.andTo(OR);
        due(NONE, x.undo());
        x.site(2, 5, 5);
        for (int i = 0; i < 6; i++) {
            // OLD's output is each time the last WIRE, patched to OR and back to NAND
            int wire = 2 + i;
            due(1, x.patch(wire, -1, 0, 1, -1));
            due(1, x.apply());
            due(Math.min(4, i + 1), x.count(7));
            x.gate(1, i % 2 == 0 ? NAND : OR, 0, 1, -1);
            x.out(1, 0, 3 + i);
        }
        due(3, x.undo());
        due(6, x.count(3));
        due(1, x.patch(7, -1, 0, 1, -1));
        due(2, x.undo());
        due(NONE, x.patched(0));
        due(1, x.undo());
        due(0, x.undo());
        due(NONE, x.undo());
        due(3, x.count(3));
        due(4, x.out(0, 0, 0));
        due(165, x.site(4, 0, 0));
        // PINS, outputs and NEXTs come back
        x = new GatePatch();
        x.begin(1, 1, 1);
        x.gate(0, NOT, 0, -1, -1);
        x.gate(0, NAND, 2, 2, -1);
        x.out(0, 0, 2);
        x.next(0, 0, 2);
        x.next(1, 0, 0);
        due(0, x.patch(2, -1, 0, -1, -1));
        due(0, x.apply());
        x.free(0);
        x.mark(0, 1);
        x.delay(0, 4);
        x.gate(1, NOT, 0, -1, -1);
        due(0, x.undo());
        due(2, x.rewire(0, 3, 0, 0));
        due(2, x.rewire(0, 3, 1, 0));
        due(2, x.out(0, 0, 0));
        due(2, x.next(0, 0, 0));
        due(4, x.count(8));
    }

    private static void p35none() {
        begin(35);
        for (int way = 0; way < 12; way++) {
            GatePatch x = new GatePatch();
            x.begin(1, 1, 1);
            x.gate(0, NOT, 0, -1, -1);
            x.out(0, 0, 2);
            x.image(0);
            x.patch(2, -1, 0, -1, -1);
            x.apply();
            due(1, x.count(7));
            switch (way) {
                case 0: x.gate(0, NOT, 0, -1, -1); break;
                case 1: x.rewire(0, 2, 0, 1); break;
                case 2: x.out(0, 0, 1); break;
                case 3: x.next(0, 0, 1); break;
                case 4: x.site(0, 1, 1); break;
                case 5: x.spare(0, 1, 1); break;
                case 6: x.back(0); break;
                case 7: x.begin(1, 1, 1); break;
                case 8: x.gate(1, NOT, 0, -1, -1); x.out(1, 0, 2); x.next(1, 0, 2); x.rewire(1, 2, 0, 1); break;
                case 9: x.free(0); x.mark(0, 1); x.delay(0, 0); x.image(1); x.clear(0); break;
                case 10: x.gate(0, NOT, 9, -1, -1); x.rewire(0, 2, 0, 2); x.out(0, 1, 0); x.next(0, 1, 0); break;
                default: x.site(0, 32, 0); x.spare(6, 0, 0); x.back(3); x.begin(9, 9, 9); break;
            }
            due(way < 8 ? 0 : 1, x.count(7));
            due(way < 8 ? NONE : 0, x.undo());
        }
    }

    private static void p36() {
        begin(36);
        GatePatch x = new GatePatch();
        x.begin(1, 2, 2);
        x.gate(0, ZERO, -1, -1, -1);
        x.gate(0, MUX, 0, 3, 3);
        x.gate(0, ONE, -1, -1, -1);
        x.gate(0, AND, 5, 3, -1);
        x.out(0, 1, 3);
        x.next(0, 1, 5);
        x.next(0, 0, 3);
        // WISH: all is WIRE 0
        due(NONE, x.change(0, 0));
        due(0, x.patch(3, 5, 0, -1, -1));
        due(0, x.apply());
        int[][] due = {{0, 4, 1}, {0, 4, 2}, {0, 6, 1}, {1, 1, 0}, {2, 0, 0}, {0, 6, 0}, {2, 1, 0}};
        due(due.length, x.count(8));
        for (int i = 0; i < due.length; i++) for (int what = 0; what < 3; what++) due(due[i][what], x.change(i, what));
        due(NONE, x.change(7, 0));
        due(NONE, x.change(-1, 0));
        due(NONE, x.change(0, 3));
        due(NONE, x.change(0, -1));
        due(0, x.undo());
        due(4, x.change(1, 1));
        x.gate(0, NOT, 0, -1, -1);
        due(7, x.count(8));
        // an APPLYING without a CHANGE: the POINT is nowhere
        due(0, x.patch(3, 5, 0, -1, -1));
        due(0, x.apply());
        due(7, x.count(8));
        due(0, x.patch(7, -1, 0, -1, -1));
        due(1, x.apply());
        due(0, x.count(8));
        due(NONE, x.change(0, 0));
        x.begin(1, 2, 2);
        due(NONE, x.change(0, 0));
    }

    /** 39 MUXES with all PINS on the POINT, and all OBSERVED: no APPLYING has more CHANGES. */
    private static void p36most() {
        begin(36);
        GatePatch x = new GatePatch();
        x.begin(6, 2, 4);
        x.gate(0, ZERO, -1, -1, -1);
        for (int g = 9; g < 48; g++) x.gate(0, MUX, 8, 8, 8);
        for (int o = 0; o < 4; o++) x.out(0, o, 8);
        for (int s = 0; s < 2; s++) x.next(0, s, 8);
        due(0, x.patch(8, -1, 0, 1, 7));
        due(0, x.apply());
        due(123, x.count(8));
        due(47, x.change(116, 1));
        due(2, x.change(116, 2));
        due(3, x.change(120, 1));
        due(2, x.change(122, 0));
        due(1, x.change(122, 1));
        due(NONE, x.change(123, 0));
        due(40, x.idle(0));
        due(0, x.rewire(0, 47, 2, 1));
    }

    private static void p37() {
        begin(37);
        GatePatch x = Nets.andTo(XOR);
        due(NONE, x.test(0));
        x.free(2);
        due(1, x.patch(2, -1, 0, 1, -1));
        due(6, x.function(0));
        due(1, x.apply());
        // AND and XOR differ at 1, 2 and 3; 2 is FREE
        due(2, x.count(9));
        due(1, x.test(0));
        due(3, x.test(1));
        due(NONE, x.test(2));
        due(NONE, x.test(-1));
        x.free(2);
        x.free(1);
        due(1, x.test(0));
        due(2, x.count(9));
        due(0, x.undo());
        due(3, x.test(1));
        x.begin(2, 0, 1);
        due(NONE, x.test(0));
        // more than one part of CASES, and NEXTs count
        x.begin(7, 1, 1);
        x.gate(0, ZERO, -1, -1, -1);
        x.next(0, 0, 8);
        x.next(1, 0, 7);
        due(0, x.patch(8, -1, 7, -1, -1));
        due(0, x.apply());
        due(128, x.count(9));
        due(128, x.test(0));
        due(255, x.test(127));
        due(NONE, x.test(128));
    }

    private static void p38() {
        begin(38);
        GatePatch x = new GatePatch();
        x.begin(1, 2, 2);
        due(0, x.idle(0));
        due(0, x.idle(1));
        for (int g = 3; g < 8; g++) x.gate(0, NOT, g < 5 ? 0 : g - 1, -1, -1);
        due(5, x.idle(0));
        x.out(0, 1, 3);
        due(4, x.idle(0));
        x.next(0, 1, 6);
        due(1, x.idle(0));
        x.rewire(0, 6, 0, 0);
        due(3, x.idle(0));
        due(0, x.idle(1));
        due(NONE, x.idle(2));
        due(NONE, x.idle(-1));
    }

    // ---- tapes ----

    private static void p39() {
        begin(39);
        GatePatch x = new GatePatch();
        due(0, x.tape(0, 1, 0));
        due(256, x.tape(5, 4, 256));
        due(0, x.at(5, 255));
        due(2, Nets.atThrows(x, 5, 256));
        due(2, Nets.atThrows(x, 0, 0));
        due(NONE, x.tape(6, 1, 1));
        due(NONE, x.tape(-1, 1, 1));
        due(NONE, x.tape(0, 0, 1));
        due(NONE, x.tape(0, 5, 1));
        due(NONE, x.tape(0, 1, 257));
        due(NONE, x.tape(0, 5, -1));
        due(NONE, x.tape(6, 1, -1));
        due(SIZE, x.tape(5, 1, -1));
        due(SIZE, x.tape(5, 1, LEAST));
        due(2, x.count(10));
        due(1, x.put(5, 7, 7));
        due(9, x.tape(5, 3, 9));
        due(0, x.at(5, 7));
        due(3, x.clear(5));
        x.image(5);
        due(1, x.tape(5, 2, 1));
        due(2, x.clear(5));
    }

    private static void p40() {
        begin(40);
        GatePatch x = new GatePatch();
        due(NONE, x.image(6));
        due(NONE, x.image(-1));
        due(0, x.image(0));
        x.gate(0, NOT, 0, -1, -1);
        x.gate(1, NOT, 0, -1, -1);
        x.gate(1, NOT, 0, -1, -1);
        x.tape(1, 1, 5);
        due(1, x.image(1));
        due(5, x.clear(1));
        due(1, x.image(5));
        // it is a picture of then
        x.gate(0, NOT, 0, -1, -1);
        due(1, x.toss(5));
        due(2, x.image(5));
        due(2, x.toss(5));
    }

    private static void p41() {
        begin(41);
        GatePatch x = new GatePatch();
        x.begin(2, 1, 2);
        x.gate(0, AND, 0, 1, -1);
        x.gate(0, NOT, 3, -1, -1);
        x.out(0, 1, 4);
        x.next(0, 0, 3);
        x.site(4, 7, 7);
        x.site(0, 1, 0);
        x.spare(NOT, 0, 0);
        x.image(2);
        x.rewire(0, 4, 0, 2);
        x.out(0, 1, 0);
        x.next(0, 0, 0);
        x.site(4, 0, 0);
        x.site(0, 0, 0);
        x.gate(0, OR, 0, 1, -1);
        x.free(3);
        due(NONE, x.back(6));
        due(NONE, x.back(-1));
        due(NOTHING, x.back(0));
        x.tape(0, 1, 1);
        due(CAST, x.back(0));
        due(2, x.count(10));
        due(2, x.back(2));
        due(2, x.count(3));
        due(3, x.rewire(0, 4, 0, 3));
        due(4, x.out(0, 1, 4));
        due(3, x.next(0, 0, 3));
        due(231, x.site(4, 7, 7));
        due(1, x.site(0, 1, 0));
        due(1, x.count(5));
        due(1, x.count(6));
        // the TAPE keeps its IMAGE
        x.gate(0, OR, 0, 1, -1);
        due(2, x.back(2));
        x.begin(2, 1, 1);
        due(UNABLE, x.back(2));
        x.begin(1, 2, 2);
        due(UNABLE, x.back(2));
        x.begin(3, 1, 2);
        due(UNABLE, x.back(2));
        due(0, x.count(3));
        due(0, x.count(10));
        x.begin(2, 1, 2);
        due(2, x.back(2));
        due(0, x.value(0, 4, 3));
        due(1, x.value(0, 4, 1));
        // KINDS and PINS come from the IMAGE, whatever GATES had these numbers since
        x.begin(2, 1, 2);
        x.gate(0, ZERO, -1, -1, -1);
        x.gate(0, MUX, 3, 3, 0);
        due(2, x.back(2));
        due(0x88, x.row(0, 3, 0));
        due(0x77, x.row(0, 4, 0));
    }

    private static void p42() {
        begin(42);
        GatePatch x = new GatePatch();
        due(NONE, x.toss(6));
        due(NONE, x.toss(-1));
        due(NOTHING, x.toss(0));
        x.tape(0, 3, 3);
        due(CAST, x.toss(0));
        x.image(0);
        due(THROWN, x.toss(0));
        due(3, x.count(10));
        x.gate(0, ONE, -1, -1, -1);
        x.gate(0, ONE, -1, -1, -1);
        x.image(0);
        due(2, x.toss(0));
        due(2, x.toss(0));
        due(3, x.count(10));
        due(2, x.count(3));
    }

    private static void p43() {
        begin(43);
        GatePatch x = new GatePatch();
        for (int sort = 1; sort < 5; sort++) {
            x.tape(sort, sort, 2);
            due(sort, x.clear(sort));
            due(0, x.clear(sort));
            due(NOTHING, x.put(sort, 0, 0));
        }
        x.image(5);
        due(5, x.clear(5));
        due(NOTHING, x.back(5));
        due(NONE, x.clear(6));
        due(NONE, x.clear(-1));
    }

    private static void p44() {
        begin(44);
        GatePatch x = new GatePatch();
        long v = 0x123456789ABCDEF0L;
        long[] narrowed = {0, (byte) v, (short) v, (int) v, v};
        for (int sort = 1; sort < 5; sort++) {
            x.tape(0, sort, 3);
            due(1, x.put(0, 2, v));
            due(narrowed[sort], x.at(0, 2));
            due(0, x.at(0, 1));
            due(1, x.put(0, 0, -1));
            due(-1, x.at(0, 0));
        }
        x.tape(1, 1, 1);
        x.put(1, 0, 128);
        due(-128, x.at(1, 0));
        x.tape(1, 2, 1);
        x.put(1, 0, 32768);
        due(-32768, x.at(1, 0));
        due(NONE, x.put(6, 0, 0));
        due(NONE, x.put(-1, 0, 0));
        due(NOTHING, x.put(2, 0, 0));
        due(NOTHING, x.put(2, -1, 0));
        x.image(2);
        due(CAST, x.put(2, 0, 0));
        due(CAST, x.put(2, -1, 0));
        due(PLACE, x.put(1, 1, 0));
        due(PLACE, x.put(1, -1, 0));
        due(PLACE, x.put(1, MOST, 0));
        due(7, x.count(10));
    }

    private static void p45() {
        begin(45);
        GatePatch x = new GatePatch();
        due(1, Nets.atThrows(x, 6, 0));
        due(1, Nets.atThrows(x, -1, 0));
        due(2, Nets.atThrows(x, 0, 0));
        x.image(0);
        due(2, Nets.atThrows(x, 0, 0));
        x.tape(0, 4, 2);
        due(2, Nets.atThrows(x, 0, 2));
        due(2, Nets.atThrows(x, 0, -1));
        due(2, Nets.atThrows(x, 0, LEAST));
        due(0, Nets.atThrows(x, 0, 1));
        x.put(0, 1, Long.MIN_VALUE);
        due(Long.MIN_VALUE, x.at(0, 1));
        due(0, x.count(10));
    }

    private static void p46() {
        begin(46);
        GatePatch x = new GatePatch();
        x.tape(0, 3, 5);
        x.tape(1, 3, 4);
        x.tape(2, 4, 4);
        x.image(3);
        for (int i = 0; i < 5; i++) x.put(0, i, i + 1);
        due(3, x.copy(0, 1, 1, 0, 3));
        long[] there = {2, 3, 4, 0};
        for (int i = 0; i < 4; i++) due(there[i], x.at(1, i));
        // within one row, to either side, as all were before
        due(4, x.copy(0, 0, 0, 1, 4));
        long[] shifted = {1, 1, 2, 3, 4};
        for (int i = 0; i < 5; i++) due(shifted[i], x.at(0, i));
        due(3, x.copy(0, 2, 0, 0, 3));
        due(2, x.at(0, 0));
        due(4, x.at(0, 2));
        due(0, x.copy(0, 5, 1, 4, 0));
        due(NONE, x.copy(6, 0, 0, 0, 0));
        due(NONE, x.copy(0, 0, 6, 0, 0));
        due(NONE, x.copy(-1, 0, 4, 0, 0));
        due(NOTHING, x.copy(4, 0, 0, 0, 0));
        due(NOTHING, x.copy(0, -1, 4, 0, 0));
        due(NOTHING, x.copy(3, 0, 4, 0, 0));
        due(CAST, x.copy(0, 0, 3, 0, 0));
        due(CAST, x.copy(3, 0, 0, 0, 0));
        due(CAST, x.copy(3, 0, 3, 0, 0));
        due(CAST, x.copy(0, -1, 2, 0, 0));
        due(PLACE, x.copy(0, -1, 1, 0, 1));
        due(PLACE, x.copy(0, 0, 1, -1, 1));
        due(PLACE, x.copy(0, 0, 1, 0, -1));
        due(PLACE, x.copy(0, 3, 1, 0, 3));
        due(PLACE, x.copy(0, 0, 1, 2, 3));
        due(PLACE, x.copy(0, 6, 1, 0, 0));
        due(PLACE, x.copy(0, 0, 1, 5, 0));
        due(PLACE, x.copy(0, MOST, 1, 0, MOST));
        due(PLACE, x.copy(0, 0, 1, MOST, 1));
        due(PLACE, x.copy(0, 1, 1, 1, MOST));
        due(PLACE, x.copy(0, LEAST, 1, LEAST, LEAST));
        due(2, x.at(1, 0));
        due(18, x.count(10));
    }

    private static void p47() {
        begin(47);
        GatePatch x = new GatePatch();
        x.begin(2, 1, 2);
        for (int g = 0; g < 3; g++) x.gate(0, AND, 0, 1, -1);
        for (int g = 0; g < 2; g++) x.gate(1, OR, 0, 1, -1);
        x.out(0, 0, 3);
        x.out(1, 0, 3);
        x.free(0);
        x.free(7);
        x.spare(OR, 0, 0);
        x.spare(OR, 0, 0);
        x.spare(OR, 0, 0);
        x.spare(OR, 0, 0);
        due(1, x.patch(3, -1, 0, 1, -1));
        due(1, x.apply());
        x.tape(0, 1, -1);
        x.toss(1);
        int[] due = {2, 1, 2, 4, 2, 2, 4, 1, 1, 4, 2};
        for (int what = 0; what < due.length; what++) due(due[what], x.count(what));
        due(NONE, x.count(11));
        due(NONE, x.count(-1));
        due(NONE, x.count(LEAST));
        due(NONE, x.count(MOST));
        x.undo();
        due(0, x.count(7));
        due(1, x.count(8));
        due(4, x.count(9));
        due(3, x.count(3));
        x.begin(2, 1, 2);
        for (int what = 3; what < 11; what++) due(0, x.count(what));
    }
}
