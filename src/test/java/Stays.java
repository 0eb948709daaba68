import java.util.Map;
import java.util.Set;
import java.util.TreeMap;
import java.util.function.Function;
import java.util.function.ToLongFunction;

/**
 * What a call that isn't refused leaves as it was: all that its promise doesn't name. It is made on one
 * object and not on its twin; then both are read, piece by piece, and must answer the same.
 */
final class Stays {
    private static final int UNABLE = -4;
    private static final int NOT = 0, AND = 1, OR = 2;
    private static final int FIRST_WIRES = 9, ALL_WIRES = 11;

    /** The pieces of all that an object holds; a piece may be spoilt by its reading. */
    private static final Map<String, Function<GatePatch, String>> PIECES = new TreeMap<>(Map.ofEntries(
        Map.entry("old", x -> net(x, 0)), Map.entry("wish", x -> net(x, 1)), Map.entry("places", Stays::places),
        Map.entry("free", Stays::free), Map.entry("spares", Stays::spares), Map.entry("delays", Stays::delays),
        Map.entry("patch", Stays::patch), Map.entry("undos", Stays::undos), Map.entry("changes", Stays::changes),
        Map.entry("tests", Stays::tests), Map.entry("clash", Stays::clash), Map.entry("points", Stays::points),
        Map.entry("marks", Stays::marks), Map.entry("prices", Stays::prices), Map.entry("tapes", Stays::tapes),
        Map.entry("image", Stays::image), Map.entry("refusals", x -> "" + x.count(10))));

    private final Rows r;

    Stays(Rows rows) { r = rows; }

    void all() {
        scene();
        nets();
        points();
        patches();
        tapes();
        reads();
        anotherShape();
        placesThatWere();
        lastWire();
    }

    /** Some of everything; the last GATE came with the last APPLYING, and is MARKED. */
    private static GatePatch rich() {
        GatePatch x = Refusals.scene(0);
        x.mark(10, 2);
        return x;
    }

    private void scene() {
        r.says("As told in I to VI.");
        GatePatch x = rich();
        r.due(2, x.count(5));
        r.due(2, x.count(7));
        r.due(2, x.count(8));
        r.due(3, x.count(9));
        r.due(1, x.count(10));
        r.due(1, x.patched(0));
        r.due(1, x.patched(3));
        r.due(2, x.clash(1));
        r.due(4, x.point(0));
        r.due(ALL_WIRES, x.count(0) + x.count(1) + x.count(3));
        // a piece that tells nothing would show nothing: each is other on a new object
        for (Map.Entry<String, Function<GatePatch, String>> piece : PIECES.entrySet()) {
            r.due(0, piece.getValue().apply(rich()).equals(piece.getValue().apply(new GatePatch())) ? 1 : 0);
        }
    }

    /** The call answers this, and changes these pieces at the most. */
    private void leaves(String sentence, long due, ToLongFunction<GatePatch> call, String... changed) {
        r.says(sentence);
        for (Map.Entry<String, Function<GatePatch, String>> piece : PIECES.entrySet()) {
            if (Set.of(changed).contains(piece.getKey())) continue;
            GatePatch x = rich();
            r.due(due, call.applyAsLong(x));
            r.same(piece.getKey() + ": " + piece.getValue().apply(rich()), piece.getKey() + ": " + piece.getValue().apply(x));
        }
    }

    private void nets() {
        leaves("A GATE is made: its number.", 11, x -> x.gate(0, AND, 0, 10, -1), "old", "patch", "undos", "prices");
        leaves("A GATE is made: its number.", 9, x -> x.gate(1, NOT, 0, -1, -1), "wish", "patch", "prices");
        leaves("A PIN of a GATE becomes another WIRE: the one it was.", 10, x -> x.rewire(0, 5, 0, 1), "old", "patch", "undos", "prices");
        leaves("A PIN of a GATE becomes another WIRE: the one it was.", 4, x -> x.rewire(1, 5, 0, 1), "wish", "patch", "prices");
        leaves("An output becomes a WIRE: the one it was.", 7, x -> x.out(0, 0, 1), "old", "patch", "undos", "prices");
        leaves("An output becomes a WIRE: the one it was.", 8, x -> x.out(1, 0, 1), "wish", "patch", "prices");
        leaves("The NEXT of a store (0 .. S - 1) becomes a WIRE: the one it was.", 6, x -> x.next(0, 0, 1), "old", "patch", "undos", "prices");
        leaves("The NEXT of a store (0 .. S - 1) becomes a WIRE: the one it was.", 6, x -> x.next(1, 0, 1), "wish", "patch", "prices");
        leaves("A CASE becomes FREE, or not FREE if it was: 1 if it is now, else 0.", 1, x -> x.free(5), "free", "patch", "prices");
        leaves("A CASE becomes FREE, or not FREE if it was: 1 if it is now, else 0.", 0, x -> x.free(3), "free", "patch", "prices");
        leaves("A WIRE of OLD gets a place: 32 y + x of the one it had.", 32 * 18 + 6, x -> x.site(2, 1, 1), "places", "patch", "undos");
        leaves("A SPARE is there: its number.", 5, x -> x.spare(2, 1, 1), "spares", "patch", "undos");
        leaves("A KIND gets a DELAY: the one it had.", 4, x -> x.delay(2, 9), "delays");
        leaves("A KIND gets a DELAY: the one it had.", 1, x -> x.delay(8, 0), "delays");
        String[] allButTapes = PIECES.keySet().stream().filter(p -> !p.equals("tapes")).toArray(String[]::new);
        leaves("nothing can be undone (TAPES stay): the number of CASES.", 16, x -> x.begin(3, 1, 2), allButTapes);
    }

    private void points() {
        leaves("how many they are; 0 if there is no DIFFER. It is kept.", 1, x -> x.points(3), "points");
        leaves("TAPE d gets a row of bytes, one for each CASE: its least ASSIGNMENT that MENDS it (0 for FREE ones): how many CASES.",
            16, x -> x.witness(0, 7, 9, 10), "tapes");
    }

    private void patches() {
        leaves("It is kept, not PLACED.", 1, x -> x.patch(7, -1, 0, 1, -1), "patch");
        leaves("UNABLE: there is a CLASH, which is kept; no PATCH is kept then.", UNABLE, x -> x.patch(9, -1, -1, -1, -1), "patch", "clash");
        leaves("A WIRE of OLD has a price (0 .. 9) and is MARKED with it;", 6, x -> x.mark(2, 9), "marks", "prices");
        leaves("price -1: it is MARKED no more: how many are MARKED now.", 4, x -> x.mark(0, -1), "marks", "prices");
        leaves("The PATCH is PLACED: the LENGTHS added.", rich().place(), x -> x.place());
        leaves("The PATCH is APPLIED: how many GATES are added.", 1, x -> x.apply(),
            "old", "patch", "undos", "changes", "tests", "spares", "prices");
        leaves("The last APPLYING that can be undone is undone: how many still can.", 1, x -> x.undo(),
            "old", "patch", "undos", "marks", "spares", "prices");
        // the best PATCH for a POINT, and none for another one
        GatePatch x = rich();
        int[] answers = new int[ALL_WIRES];
        for (int g = 4; g < ALL_WIRES; g++) answers[g] = x.best(g);
        int able = -1, unable = -1;
        for (int g = 4; g < ALL_WIRES; g++) if (answers[g] >= 0) able = g; else unable = g;
        int good = able, bad = unable;
        r.due(1, good > 0 && bad > 0 ? 1 : 0);
        leaves("It is kept, not PLACED. NONE: it is no GATE of OLD;", answers[good], y -> y.best(good), "patch");
        leaves("UNABLE: no such set can (the last CLASH stays, no PATCH is kept then).", UNABLE, y -> y.best(bad), "patch");
    }

    private void tapes() {
        leaves("TAPE d gets a row of n elements, all 0, of a sort (1 .. 4): n.", 7, x -> x.tape(5, 2, 7), "tapes");
        leaves("TAPE d gets an IMAGE of OLD: how many GATES it has.", 7, x -> x.image(5), "tapes");
        leaves("OLD becomes as the IMAGE on TAPE d: how many GATES it has.", 5, x -> x.back(4),
            "old", "patch", "undos", "marks", "prices");
        leaves("The failure of the IMAGE on TAPE d is thrown, and caught: how many GATES it has.", 5, x -> x.toss(4));
        leaves("TAPE d holds nothing: what it held (0 nothing, 1 .. 5).", 2, x -> x.clear(1), "tapes");
        leaves("Element i of the row on TAPE d becomes v, narrowed to its sort: 1.", 1, x -> x.put(1, 0, 9), "tapes");
        leaves("n elements of the row on TAPE d from place i on go to the row on TAPE e from place j on (as they all were before): n.",
            2, x -> x.copy(1, 0, 1, 3, 2), "tapes");
    }

    private void reads() {
        reads("The value of a WIRE at a CASE.", x -> x.value(0, 5, 3));
        reads("The FUNCTION of a WIRE at the CASES 64 part .. 64 part + 63 as bits 0 .. 63 (0 beyond the last CASE).", x -> x.row(1, 5, 0));
        reads("Whether a WIRE HANGS on another (1, 0).", x -> x.hangs(0, 7, 4));
        reads("DIFFER; SAME (1000): there is none.", GatePatch::differ);
        reads("Whether POINTS (b, c -1 if there are fewer) are ENOUGH:", x -> x.enough(9, -1, -1));
        reads("Whether POINTS (b, c -1 if there are fewer) are ENOUGH:", x -> x.enough(7, 8, 9));
        reads("The k-th POINT that is kept by points()", x -> x.point(0));
        reads("The least ASSIGNMENT that MENDS a CASE.", x -> x.mend(7, 9, -1, 3));
        reads("Of the last CLASH since begin(): what 0 the first CASE with its PATTERN, 1 the CASE.", x -> x.clash(0));
        reads("Of the PATCH: what 0 how many GATES, 1 how many POINTS, 2 how many TOLD WIRES, 3 1 if it is PLACED, else 0.", x -> x.patched(0));
        reads("The function of the PATCH's k-th POINT.", x -> x.function(0));
        reads("The j-th TOLD WIRE of the PATCH.", x -> x.told(0));
        reads("Of the PATCH's i-th GATE: what 0 KIND,", x -> x.node(0, 0));
        reads("COST of a function for m.", x -> x.cost(3, 105));
        reads("Whether a SPARE is USED (1, 0).", x -> x.used(0));
        reads("When a WIRE ARRIVES.", x -> x.arrive(0, 7));
        reads("How many OBSERVED of OLD ARRIVE behind a tick.", x -> x.late(2));
        reads("Of the i-th CHANGE of the last APPLYING since begin():", x -> x.change(0, 1));
        reads("The i-th TEST of the last APPLYING since begin() (by the FREE of then).", x -> x.test(0));
        reads("How many GATES of a NET none of its OBSERVED HANGS on.", x -> x.idle(1));
        reads("Element i of the row on TAPE d.", x -> x.at(1, 3));
        for (int what = 0; what < 11; what++) {
            int asked = what;
            reads("0 inputs, 1 stores, 2 outputs, 3 GATES of OLD, 4 of WISH, 5 FREE CASES, 6 SPARES,", x -> x.count(asked));
        }
    }

    private void reads(String sentence, ToLongFunction<GatePatch> call) {
        leaves(sentence, call.applyAsLong(rich()), call);
    }

    private void anotherShape() {
        r.says("UNABLE: the IMAGE was made with other inputs, stores or outputs.");
        GatePatch x = new GatePatch();
        x.image(0);
        andToOr(x);
        r.due(1, x.patch(2, -1, 0, 1, -1));
        r.due(1, x.apply());
        r.due(1, x.patch(3, -1, 0, 1, -1));
        r.due(UNABLE, x.back(0));
        r.due(1, x.count(7));
        r.due(1, x.patched(1));
        r.due(0, x.undo());
        r.due(1, x.count(3));
    }

    private void placesThatWere() {
        r.says("each WIRE of OLD has a place (0, 0 at first; x and y 0 .. 31);");
        // a GATE that is made where another one was, ahead of back() or undo()
        GatePatch x = new GatePatch();
        andToOr(x);
        x.image(0);
        r.due(3, x.gate(0, NOT, 2, -1, -1));
        r.due(0, x.site(3, 5, 6));
        r.due(1, x.back(0));
        r.due(3, x.gate(0, NOT, 2, -1, -1));
        r.due(0, x.site(3, 7, 8));
        r.due(1, x.back(0));
        x.site(2, 9, 9);
        r.due(1, x.patch(2, -1, 0, 1, -1));
        r.due(1, x.apply());
        r.due(0, x.undo());
        r.due(3, x.gate(0, NOT, 2, -1, -1));
        r.due(0, x.site(3, 0, 0));
        r.due(32 * 9 + 9, x.site(2, 0, 0));
        r.says("Whenever OLD, WISH, its places, FREE or the SPARES are changed there is no PATCH any more.");
        x = new GatePatch();
        andToOr(x);
        r.due(1, x.patch(2, -1, 0, 1, -1));
        r.due(0, x.site(0, 0, 0));
        r.due(-1, x.patched(0));
    }

    private void lastWire() {
        r.says("(MARKS stay until begin(), or until undo() or back() takes the WIRE away.)");
        for (int times = 0; times < 2; times++) {
            GatePatch x = new GatePatch();
            x.begin(8, 0, 1);
            for (int g = 0; g < 39; g++) x.gate(0, AND, 0, 1, -1);
            x.image(0);
            x.gate(1, OR, 0, 1, -1);
            x.out(0, 0, 8);
            x.out(1, 0, 8);
            r.due(1, x.patch(8, -1, 0, 1, -1));
            r.due(1, x.apply());
            r.due(1, x.mark(47, 3));
            r.due(2, x.mark(46, 3));
            r.due(times == 0 ? 0 : 39, times == 0 ? x.undo() : x.back(0));
            r.due(2, x.mark(0, 0));
            r.due(1, x.mark(46, -1));
            r.due(0, x.mark(0, -1));
        }
    }

    private static void andToOr(GatePatch x) {
        x.begin(2, 0, 1);
        x.gate(0, AND, 0, 1, -1);
        x.gate(1, OR, 0, 1, -1);
        x.out(0, 0, 2);
        x.out(1, 0, 2);
    }

    // ---- pieces ----

    private static String net(GatePatch x, int net) {
        StringBuilder s = new StringBuilder();
        int wires = x.count(0) + x.count(1) + x.count(3 + net);
        for (int w = 0; w < wires; w++) s.append(x.row(net, w, 0)).append(' ');
        for (int o = 0; o < 2; o++) s.append(" o").append(x.out(net, o, 0));
        s.append(" n").append(x.next(net, 0, 0));
        for (int g = 4; g < wires; g++) for (int p = 0; p < 3; p++) s.append(" r").append(x.rewire(net, g, p, 0));
        return s.toString();
    }

    private static String places(GatePatch x) {
        StringBuilder s = new StringBuilder();
        for (int w = 0; w < FIRST_WIRES; w++) s.append(x.site(w, 0, 0)).append(' ');
        return s.toString();
    }

    private static String free(GatePatch x) {
        StringBuilder s = new StringBuilder().append(x.count(5));
        for (int k = 0; k < 16; k++) s.append(x.free(k));
        return s.toString();
    }

    private static String spares(GatePatch x) {
        StringBuilder s = new StringBuilder().append(x.count(6));
        for (int k = 0; k < 12; k++) s.append(' ').append(x.used(k));
        return s.toString();
    }

    private static String delays(GatePatch x) {
        StringBuilder s = new StringBuilder();
        for (int k = 0; k < 9; k++) s.append(x.delay(k, 3));
        return s.toString();
    }

    private static String patch(GatePatch x) {
        StringBuilder s = new StringBuilder();
        for (int what = 0; what < 4; what++) s.append(" p").append(x.patched(what));
        for (int k = 0; k < 2; k++) s.append(" f").append(x.function(k));
        for (int j = 0; j < 3; j++) s.append(" t").append(x.told(j));
        for (int i = 0; i < 4; i++) for (int what = 0; what < 5; what++) s.append(" n").append(x.node(i, what));
        return s.toString();
    }

    private static String undos(GatePatch x) {
        StringBuilder s = new StringBuilder().append(x.count(7));
        for (int i = 0; i < 5; i++) {
            s.append(" undo").append(x.undo()).append(' ').append(x.count(3));
            for (int w = 0; w < FIRST_WIRES; w++) s.append(x.count(3) > 0 ? x.row(0, w, 0) : 0).append(' ');
        }
        return s.toString();
    }

    private static String changes(GatePatch x) {
        StringBuilder s = new StringBuilder().append(x.count(8));
        for (int i = 0; i < 5; i++) for (int what = 0; what < 3; what++) s.append(' ').append(x.change(i, what));
        return s.toString();
    }

    private static String tests(GatePatch x) {
        StringBuilder s = new StringBuilder().append(x.count(9));
        for (int i = 0; i < 9; i++) s.append(' ').append(x.test(i));
        return s.toString();
    }

    private static String clash(GatePatch x) { return x.clash(0) + " " + x.clash(1); }

    private static String points(GatePatch x) { return x.point(0) + " " + x.point(1) + " " + x.point(2); }

    private static String marks(GatePatch x) {
        StringBuilder s = new StringBuilder();
        for (int w = 0; w < ALL_WIRES; w++) s.append(x.mark(w, -1)).append(' ');
        return s.toString();
    }

    /** By the sums of best(), as fewer and fewer WIRES are MARKED. */
    private static String prices(GatePatch x) {
        StringBuilder s = new StringBuilder();
        for (int g = 4; g < ALL_WIRES; g++) s.append(x.best(g)).append(' ').append(x.told(0)).append(' ');
        for (int w = 0; w < ALL_WIRES; w++) {
            s.append(x.mark(w, -1)).append(' ');
            for (int g = 4; g < ALL_WIRES; g++) s.append(x.best(g)).append(' ');
        }
        return s.toString();
    }

    private static String tapes(GatePatch x) {
        StringBuilder s = new StringBuilder();
        for (int d = 0; d < 6; d++) {
            for (int i = 0; i < 8; i++) s.append(Nets.atThrows(x, d, i) > 0 ? "x" : x.at(d, i)).append(' ');
            s.append(x.toss(d)).append(' ').append(x.clear(d)).append(", ");
        }
        return s.toString();
    }

    private static String image(GatePatch x) {
        return x.back(4) + " " + (x.count(3) > 0 ? net(x, 0) + places(x) : "");
    }
}
