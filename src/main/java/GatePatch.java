import java.util.Arrays;

/**
 * A patcher of nets of gates: an OLD net is to do what a WISH does, with few changes.
 *
 * <p>Words in capitals, and the numbers of promises, are those of the document DOC.md. All rows are
 * made once, with the object, and used again: no call makes an object or an array.
 */
public final class GatePatch {
    public static final int NONE = -1, RING = -2, FULL = -3, UNABLE = -4, SPARE = -5, SAME = 1000;
    public static final int NOTHING = -11, CAST = -12, PLACE = -13, SIZE = -14, THROWN = -15;

    private static final int NOT = 0, AND = 1, OR = 2, XOR = 3, NAND = 4, NOR = 5, MUX = 6, ZERO = 7, ONE = 8;
    private static final int KINDS = 9;
    private static final byte[] PIN_COUNT = {1, 2, 2, 2, 2, 2, 3, 0, 0};
    private static final int PINS = 3;

    private static final int MOST_SOURCES = 8, MOST_STORES = 2, MOST_OUTPUTS = 4;
    private static final int MOST_SEEN = MOST_OUTPUTS + MOST_STORES;
    private static final int OLD_GATES = 40, WISH_GATES = 24;
    private static final int MOST_WIRES = MOST_SOURCES + OLD_GATES;

    private static final int MOST_CASES = 256;
    /** CASES are looked at 64 at once, as the bits of a long; such a long is one part. */
    private static final int PART = 64, PARTS = 4;

    private static final int MOST_POINTS = 3, PATCH_POINTS = 2, MOST_TOLD = 3;
    /** So many CASES, each with all ASSIGNMENTS of three POINTS, fill a long; the first one is at these bits. */
    private static final int HARD = 8, HARD_BITS = 3;
    private static final long FIRST_HARD = 0x0101010101010101L;
    /** No function of three WIRES has a COST above 4, and a PATCH has at most two of them. */
    private static final int MOST_COST = 4, MOST_NODES = PATCH_POINTS * MOST_COST;
    private static final int LEAF = 100, LEAF_ZERO = 200, LEAF_ONE = 201, NO_PART = -2;

    private static final int MOST_SPARES = 12, SIDE = 32;
    private static final int MOST_MARKS = 10, MOST_PRICE = 9, MOST_DELAY = 9;
    private static final int MOST_UNDOS = 4;
    private static final int TAPES = 6, MOST_ELEMENTS = 256;
    private static final int BYTES = 1, SHORTS = 2, INTS = 3, LONGS = 4, IMAGE = 5;

    /** Bit k of the numbers 0 to 63, for k from 0 to 5: the values of the first six WIRES in a part. */
    private static final long[] COUNTING = {
        0xAAAAAAAAAAAAAAAAL, 0xCCCCCCCCCCCCCCCCL, 0xF0F0F0F0F0F0F0F0L,
        0xFF00FF00FF00FF00L, 0xFFFF0000FFFF0000L, 0xFFFFFFFF00000000L,
    };

    private final Net old = new Net(OLD_GATES);
    private final Net wish = new Net(WISH_GATES);
    private final Cases cases = new Cases();
    private final Mender mender = new Mender(old, wish, cases);
    private final Finder finder = new Finder(old, cases);
    private final Marks marks = new Marks();
    private final Patch patch = new Patch();
    private final Spares spares = new Spares();
    private final Journal journal = new Journal();
    private final Tape[] tapes = new Tape[TAPES];
    private final int[] delays = new int[KINDS];
    private final int[] keptPoints = new int[MOST_POINTS];
    private int keptCount;
    private int clashFirst;
    private int clashCase;
    private int refusals;

    public GatePatch() {
        for (int d = 0; d < TAPES; d++) {
            tapes[d] = new Tape();
        }
        startAll(3, 0, 1);
    }

    // ---- nets and cases ----

    public int begin(int inputs, int stores, int outputs) {
        if (inputs < 0 || inputs > MOST_SOURCES || stores < 0 || stores > MOST_STORES) {
            return NONE;
        }
        int sources = inputs + stores;
        if (sources < 1 || sources > MOST_SOURCES || outputs < 1 || outputs > MOST_OUTPUTS) {
            return NONE;
        }
        startAll(inputs, stores, outputs);
        return cases.number;
    }

    private void startAll(int inputs, int stores, int outputs) {
        old.start(inputs, stores, outputs);
        wish.start(inputs, stores, outputs);
        cases.start(inputs + stores);
        marks.start();
        patch.drop();
        spares.start();
        journal.start();
        Arrays.fill(delays, 1);
        keptCount = 0;
        clashFirst = NONE;
        clashCase = NONE;
        refusals = 0;
    }

    public int gate(int net, int kind, int a, int b, int c) {
        Net made = netOf(net);
        if (made == null || kind < 0 || kind >= KINDS || !pinsFit(made.plan, kind, a, b, c)) {
            return NONE;
        }
        if (made.plan.gates >= made.limit) {
            return FULL;
        }
        int number = made.plan.addGate(kind, a, b, c, 0);
        changed(made);
        return number;
    }

    private static boolean pinsFit(Plan plan, int kind, int a, int b, int c) {
        int count = PIN_COUNT[kind];
        return (count > 0 ? plan.isWire(a) : a == -1)
            && (count > 1 ? plan.isWire(b) : b == -1)
            && (count > 2 ? plan.isWire(c) : c == -1);
    }

    public int rewire(int net, int gate, int pin, int wire) {
        Net one = netOf(net);
        if (one == null || !one.plan.isGate(gate) || !one.plan.hasPin(gate, pin) || !one.plan.isWire(wire)) {
            return NONE;
        }
        one.refresh();
        if (one.hangsOn(wire, gate)) {
            return RING;
        }
        int place = PINS * gate + pin;
        int was = one.plan.pins[place];
        one.plan.pins[place] = wire;
        changed(one);
        return was;
    }

    public int out(int net, int output, int wire) {
        Net one = netOf(net);
        if (one == null || output < 0 || output >= one.plan.outputs || !one.plan.isWire(wire)) {
            return NONE;
        }
        return see(one, output, wire);
    }

    public int next(int net, int store, int wire) {
        Net one = netOf(net);
        if (one == null || store < 0 || store >= one.plan.stores || !one.plan.isWire(wire)) {
            return NONE;
        }
        return see(one, one.plan.outputs + store, wire);
    }

    private int see(Net one, int place, int wire) {
        int was = one.plan.seen[place];
        one.plan.seen[place] = wire;
        changed(one);
        return was;
    }

    public int free(int kase) {
        if (!cases.has(kase)) {
            return NONE;
        }
        patch.drop();
        return cases.flip(kase);
    }

    public int value(int net, int wire, int kase) {
        Net one = netOf(net);
        if (one == null || !one.plan.isWire(wire) || !cases.has(kase)) {
            return NONE;
        }
        one.refresh();
        return (int) (one.words[PARTS * wire + kase / PART] >> kase % PART & 1);
    }

    public long row(int net, int wire, int part) throws IllegalArgumentException {
        Net one = netOf(net);
        if (one == null || !one.plan.isWire(wire) || part < 0 || part >= PARTS) {
            throw new IllegalArgumentException("no such net, wire or part");
        }
        one.refresh();
        return one.words[PARTS * wire + part] & cases.all[part];
    }

    public int hangs(int net, int wire, int other) {
        Net one = netOf(net);
        if (one == null || !one.plan.isWire(wire) || !one.plan.isWire(other)) {
            return NONE;
        }
        one.refresh();
        return one.hangsOn(wire, other) ? 1 : 0;
    }

    private Net netOf(int net) {
        if (net == 0) {
            return old;
        }
        return net == 1 ? wish : null;
    }

    /** A change of WISH leaves what can be undone as it is: undoing speaks of OLD alone. */
    private void changed(Net one) {
        one.stale();
        patch.drop();
        if (one == old) {
            journal.undos = 0;
        }
    }

    private void refreshBoth() {
        old.refresh();
        wish.refresh();
    }

    // ---- points ----

    public int differ() {
        refreshBoth();
        return mender.firstDifference();
    }

    public int enough(int a, int b, int c) {
        if (!mender.aim(a, b, c)) {
            return NONE;
        }
        refreshBoth();
        return mender.firstUnmended();
    }

    public int points(int n) {
        if (n < 1 || n > MOST_POINTS) {
            return NONE;
        }
        refreshBoth();
        int difference = mender.firstDifference();
        if (difference == SAME) {
            return 0;
        }
        mender.startSearch(difference);
        for (int size = 1; size <= n; size++) {
            if (mender.search(size)) {
                System.arraycopy(mender.points, 0, keptPoints, 0, size);
                keptCount = size;
                return size;
            }
        }
        return UNABLE;
    }

    public int point(int k) {
        return k < 0 || k >= keptCount ? NONE : keptPoints[k];
    }

    public int mend(int a, int b, int c, int kase) {
        if (!mender.aim(a, b, c) || !cases.has(kase)) {
            return NONE;
        }
        refreshBoth();
        return mender.leastMending(kase);
    }

    public int witness(int d, int a, int b, int c) {
        if (!isTape(d) || !mender.aim(a, b, c)) {
            return NONE;
        }
        refreshBoth();
        if (mender.firstUnmended() != SAME) {
            return UNABLE;
        }
        tapes[d].hold(BYTES, cases.number);
        mender.writeLeast(tapes[d].elements);
        return cases.number;
    }

    public int judge(int d, int a, int b, int c) {
        if (!isTape(d) || !mender.aim(a, b, c)) {
            return NONE;
        }
        if (tapes[d].sort == 0) {
            return refused(NOTHING);
        }
        if (tapes[d].sort != BYTES) {
            return refused(CAST);
        }
        refreshBoth();
        int answer = mender.firstMisjudged(tapes[d].elements, tapes[d].length);
        return answer == PLACE ? refused(PLACE) : answer;
    }

    // ---- patches ----

    public int patch(int a, int b, int u, int v, int w) {
        if (!mender.aim(a, b, -1) || !finder.tell(u, v, w)) {
            return NONE;
        }
        refreshBoth();
        if (finder.toldHangOn(mender.mask)) {
            return RING;
        }
        finder.learn(mender);
        if (!finder.allow()) {
            finder.findClash();
            clashFirst = finder.clashFirst;
            clashCase = finder.clashCase;
            patch.drop();
            return UNABLE;
        }
        finder.choose();
        patch.keep(finder);
        return finder.least;
    }

    public int clash(int what) {
        if (what == 0) {
            return clashFirst;
        }
        return what == 1 ? clashCase : NONE;
    }

    public int mark(int wire, int price) {
        if (!old.plan.isWire(wire) || price < -1 || price > MOST_PRICE) {
            return NONE;
        }
        if (price >= 0 && marks.number >= MOST_MARKS && marks.prices[wire] < 0) {
            return FULL;
        }
        marks.give(wire, price);
        return marks.number;
    }

    public int best(int a) {
        if (!mender.aim(a, -1, -1)) {
            return NONE;
        }
        refreshBoth();
        finder.learn(mender);
        if (!marks.search(finder, old, a)) {
            patch.drop();
            return UNABLE;
        }
        patch.keep(finder);
        return marks.leastSum;
    }

    public int patched(int what) {
        if (!patch.kept) {
            return NONE;
        }
        switch (what) {
            case 0: return patch.nodes;
            case 1: return patch.points;
            case 2: return patch.tolds;
            case 3: return patch.placed ? 1 : 0;
            default: return NONE;
        }
    }

    public int function(int k) {
        return !patch.kept || k < 0 || k >= patch.points ? NONE : patch.functions[k];
    }

    public int told(int j) {
        return !patch.kept || j < 0 || j >= patch.tolds ? NONE : patch.toldWires[j];
    }

    public int node(int i, int what) {
        if (!patch.kept || i < 0 || i >= patch.nodes) {
            return NONE;
        }
        switch (what) {
            case 0: return patch.kinds[i];
            case 1: return patch.firsts[i];
            case 2: return patch.seconds[i];
            case 3: return patch.owners[i];
            case 4: return patch.placed ? patch.spareOf[i] : NO_PART;
            default: return NONE;
        }
    }

    public int cost(int m, int function) {
        if (m < 0 || m > MOST_TOLD || function < 0 || function > Functions.ones(m)) {
            return NONE;
        }
        return Functions.price(m, function);
    }

    // ---- places and ticks ----

    public int site(int wire, int x, int y) {
        if (!old.plan.isWire(wire) || !isPlace(x, y)) {
            return NONE;
        }
        int was = old.plan.places[wire];
        old.plan.places[wire] = SIDE * y + x;
        changed(old);
        return was;
    }

    public int spare(int kind, int x, int y) {
        if (kind < NOT || kind > NOR || !isPlace(x, y)) {
            return NONE;
        }
        if (spares.number >= MOST_SPARES) {
            return FULL;
        }
        int number = spares.addSpare(kind, SIDE * y + x);
        patch.drop();
        journal.undos = 0;
        return number;
    }

    private static boolean isPlace(int x, int y) {
        return x >= 0 && x < SIDE && y >= 0 && y < SIDE;
    }

    public int place() {
        return patch.kept ? spares.settle(patch, old.plan.places) : NONE;
    }

    public int used(int spare) {
        return spare < 0 || spare >= spares.number ? NONE : spares.usedMask >> spare & 1;
    }

    public int delay(int kind, int ticks) {
        if (kind < 0 || kind >= KINDS || ticks < 0 || ticks > MOST_DELAY) {
            return NONE;
        }
        int was = delays[kind];
        delays[kind] = ticks;
        return was;
    }

    public int arrive(int net, int wire) {
        Net one = netOf(net);
        if (one == null || !one.plan.isWire(wire)) {
            return NONE;
        }
        one.refresh();
        one.timeAll(delays);
        return one.ticks[wire];
    }

    public int late(int tick) {
        if (tick < 0) {
            return NONE;
        }
        old.refresh();
        old.timeAll(delays);
        int number = 0;
        for (int i = 0; i < old.plan.seenCount(); i++) {
            if (old.ticks[old.plan.seen[i]] > tick) {
                number++;
            }
        }
        return number;
    }

    // ---- applying ----

    public int apply() {
        if (!patch.kept) {
            return NONE;
        }
        int added = patch.gatesToAdd();
        if (old.plan.gates + added > OLD_GATES) {
            return FULL;
        }
        old.refresh();
        journal.open(old, spares.usedMask);
        for (int k = 0; k < patch.points; k++) {
            int wire = patch.addTree(k, old.plan, spares);
            journal.replace(old.plan, patch.pointWires[k], wire);
        }
        old.stale();
        old.refresh();
        journal.findTests(old, cases);
        patch.drop();
        return added;
    }

    public int undo() {
        if (journal.undos < 1) {
            return NONE;
        }
        spares.usedMask = journal.takeBack(old.plan);
        oldIsReplaced();
        return journal.undos;
    }

    private void oldIsReplaced() {
        old.stale();
        marks.forgetFrom(old.plan.wires());
        patch.drop();
    }

    public int change(int i, int what) {
        if (i < 0 || i >= journal.changeCount || what < 0 || what > 2) {
            return NONE;
        }
        return journal.changes[3 * i + what];
    }

    public int test(int i) {
        return i < 0 || i >= journal.testCount ? NONE : journal.tests[i];
    }

    public int idle(int net) {
        Net one = netOf(net);
        if (one == null) {
            return NONE;
        }
        one.refresh();
        long reached = 0;
        for (int i = 0; i < one.plan.seenCount(); i++) {
            reached |= one.below[one.plan.seen[i]];
        }
        return one.plan.gates - Long.bitCount(reached >> one.plan.sources());
    }

    // ---- tapes ----

    public int tape(int d, int sort, int n) {
        if (!isTape(d) || sort < BYTES || sort > LONGS || n > MOST_ELEMENTS) {
            return NONE;
        }
        if (n < 0) {
            return refused(SIZE);
        }
        tapes[d].hold(sort, n);
        return n;
    }

    public int image(int d) {
        if (!isTape(d)) {
            return NONE;
        }
        tapes[d].hold(IMAGE, 0);
        tapes[d].plan.take(old.plan);
        return old.plan.gates;
    }

    public int back(int d) {
        if (!isTape(d)) {
            return NONE;
        }
        int fault = imageFault(tapes[d]);
        if (fault != 0) {
            return refused(fault);
        }
        if (!old.plan.sameShape(tapes[d].plan)) {
            return UNABLE;
        }
        old.plan.take(tapes[d].plan);
        oldIsReplaced();
        journal.undos = 0;
        return old.plan.gates;
    }

    public int toss(int d) {
        if (!isTape(d)) {
            return NONE;
        }
        int fault = imageFault(tapes[d]);
        if (fault != 0) {
            return refused(fault);
        }
        return tapes[d].plan.gates == 0 ? refused(THROWN) : tapes[d].plan.gates;
    }

    private static int imageFault(Tape tape) {
        if (tape.sort == 0) {
            return NOTHING;
        }
        return tape.sort == IMAGE ? 0 : CAST;
    }

    public int clear(int d) {
        if (!isTape(d)) {
            return NONE;
        }
        int was = tapes[d].sort;
        tapes[d].hold(0, 0);
        return was;
    }

    public int put(int d, int i, long v) {
        if (!isTape(d)) {
            return NONE;
        }
        if (tapes[d].sort == 0) {
            return refused(NOTHING);
        }
        if (!tapes[d].isRow()) {
            return refused(CAST);
        }
        if (!tapes[d].hasElement(i)) {
            return refused(PLACE);
        }
        tapes[d].elements[i] = tapes[d].narrowed(v);
        return 1;
    }

    public long at(int d, int i) throws IllegalArgumentException, IllegalStateException {
        if (!isTape(d)) {
            throw new IllegalArgumentException("no such tape");
        }
        if (!tapes[d].isRow() || !tapes[d].hasElement(i)) {
            throw new IllegalStateException("no row with such a place");
        }
        return tapes[d].elements[i];
    }

    public int copy(int d, int i, int e, int j, int n) {
        if (!isTape(d) || !isTape(e)) {
            return NONE;
        }
        Tape from = tapes[d];
        Tape to = tapes[e];
        if (from.sort == 0 || to.sort == 0) {
            return refused(NOTHING);
        }
        if (!from.isRow() || from.sort != to.sort) {
            return refused(CAST);
        }
        if (!from.hasElements(i, n) || !to.hasElements(j, n)) {
            return refused(PLACE);
        }
        System.arraycopy(from.elements, i, to.elements, j, n);
        return n;
    }

    private static boolean isTape(int d) {
        return d >= 0 && d < TAPES;
    }

    private int refused(int code) {
        refusals++;
        return code;
    }

    public int count(int what) {
        switch (what) {
            case 0: return old.plan.inputs;
            case 1: return old.plan.stores;
            case 2: return old.plan.outputs;
            case 3: return old.plan.gates;
            case 4: return wish.plan.gates;
            case 5: return cases.freeCount();
            case 6: return spares.number;
            case 7: return journal.undos;
            case 8: return journal.changeCount;
            case 9: return journal.testCount;
            case 10: return refusals;
            default: return NONE;
        }
    }

    /** What a NET is made of; this much is what an IMAGE and an undoing keep of OLD. */
    private static final class Plan {
        int inputs;
        int stores;
        int outputs;
        int gates;
        final int[] kinds = new int[MOST_WIRES];
        final int[] pins = new int[PINS * MOST_WIRES];
        /** The OBSERVED: outputs, then the NEXTs of stores. */
        final int[] seen = new int[MOST_SEEN];
        /** By WIRE: 32 y + x. */
        final int[] places = new int[MOST_WIRES];

        void start(int newInputs, int newStores, int newOutputs) {
            inputs = newInputs;
            stores = newStores;
            outputs = newOutputs;
            gates = 0;
            Arrays.fill(seen, 0);
            Arrays.fill(places, 0);
        }

        int sources() {
            return inputs + stores;
        }

        int wires() {
            return inputs + stores + gates;
        }

        int seenCount() {
            return outputs + stores;
        }

        boolean isWire(int wire) {
            return wire >= 0 && wire < wires();
        }

        boolean isGate(int wire) {
            return wire >= sources() && wire < wires();
        }

        boolean hasPin(int gate, int pin) {
            return pin >= 0 && pin < PIN_COUNT[kinds[gate]];
        }

        /** The caller has looked whether there is room. */
        int addGate(int kind, int a, int b, int c, int place) {
            int number = wires();
            kinds[number] = kind;
            pins[PINS * number] = a;
            pins[PINS * number + 1] = b;
            pins[PINS * number + 2] = c;
            places[number] = place;
            gates++;
            return number;
        }

        boolean sameShape(Plan other) {
            return inputs == other.inputs && stores == other.stores && outputs == other.outputs;
        }

        void take(Plan other) {
            inputs = other.inputs;
            stores = other.stores;
            outputs = other.outputs;
            gates = other.gates;
            System.arraycopy(other.kinds, 0, kinds, 0, kinds.length);
            System.arraycopy(other.pins, 0, pins, 0, pins.length);
            System.arraycopy(other.seen, 0, seen, 0, seen.length);
            System.arraycopy(other.places, 0, places, 0, places.length);
        }
    }

    /** A NET: its plan, and what follows from it, worked out anew when the plan has changed. */
    private static final class Net {
        final Plan plan = new Plan();
        final int limit;
        /** The GATES, each behind its PINS: numbers alone don't tell that once PINS were rewired. */
        final int[] order = new int[OLD_GATES];
        /** By WIRE: a bit for each WIRE that it HANGS on. */
        final long[] below = new long[MOST_WIRES];
        /** FUNCTIONS: PARTS words for each WIRE. */
        final long[] words = new long[PARTS * MOST_WIRES];
        final int[] ticks = new int[MOST_WIRES];
        private boolean fresh;

        Net(int gateLimit) {
            limit = gateLimit;
        }

        void start(int inputs, int stores, int outputs) {
            plan.start(inputs, stores, outputs);
            fresh = false;
        }

        void stale() {
            fresh = false;
        }

        void refresh() {
            if (!fresh) {
                sortGates();
                findBelow();
                fillWords();
                fresh = true;
            }
        }

        boolean hangsOn(int wire, int other) {
            return (below[wire] >> other & 1) == 1;
        }

        private void sortGates() {
            long ready = (1L << plan.sources()) - 1;
            int sorted = 0;
            for (int pass = 0; pass < plan.gates && sorted < plan.gates; pass++) {
                for (int g = plan.sources(); g < plan.wires(); g++) {
                    if ((ready >> g & 1) == 0 && pinsReady(g, ready)) {
                        ready |= 1L << g;
                        order[sorted] = g;
                        sorted++;
                    }
                }
            }
        }

        private boolean pinsReady(int gate, long ready) {
            for (int p = 0; p < PIN_COUNT[plan.kinds[gate]]; p++) {
                if ((ready >> plan.pins[PINS * gate + p] & 1) == 0) {
                    return false;
                }
            }
            return true;
        }

        private void findBelow() {
            for (int w = 0; w < plan.sources(); w++) {
                below[w] = 1L << w;
            }
            for (int i = 0; i < plan.gates; i++) {
                int g = order[i];
                long mask = 1L << g;
                for (int p = 0; p < PIN_COUNT[plan.kinds[g]]; p++) {
                    mask |= below[plan.pins[PINS * g + p]];
                }
                below[g] = mask;
            }
        }

        private void fillWords() {
            for (int part = 0; part < PARTS; part++) {
                for (int w = 0; w < plan.sources(); w++) {
                    words[PARTS * w + part] = sourceWord(w, part);
                }
                for (int i = 0; i < plan.gates; i++) {
                    int g = order[i];
                    words[PARTS * g + part] = made(plan.kinds[g],
                        pinWord(g, 0, part), pinWord(g, 1, part), pinWord(g, 2, part));
                }
            }
        }

        private long pinWord(int gate, int pin, int part) {
            int wire = plan.pins[PINS * gate + pin];
            return wire < 0 ? 0 : words[PARTS * wire + part];
        }

        private static long sourceWord(int wire, int part) {
            if (wire < COUNTING.length) {
                return COUNTING[wire];
            }
            return (part >> wire - COUNTING.length & 1) == 1 ? -1L : 0L;
        }

        /** What a KIND makes of many CASES, or of many PATTERNS, at once. */
        static long made(int kind, long a, long b, long c) {
            switch (kind) {
                case NOT: return ~a;
                case AND: return a & b;
                case OR: return a | b;
                case XOR: return a ^ b;
                case NAND: return ~(a & b);
                case NOR: return ~(a | b);
                case MUX: return a & b | ~a & c;
                case ONE: return -1L;
                default: return 0L;
            }
        }

        void timeAll(int[] delays) {
            for (int w = 0; w < plan.sources(); w++) {
                ticks[w] = 0;
            }
            for (int i = 0; i < plan.gates; i++) {
                int g = order[i];
                int latest = 0;
                for (int p = 0; p < PIN_COUNT[plan.kinds[g]]; p++) {
                    latest = Math.max(latest, ticks[plan.pins[PINS * g + p]]);
                }
                ticks[g] = latest + delays[plan.kinds[g]];
            }
        }
    }

    /** Which CASES there are, and which of them are not FREE. */
    private static final class Cases {
        int number;
        int parts;
        final long[] all = new long[PARTS];
        final long[] live = new long[PARTS];

        void start(int sources) {
            number = 1 << sources;
            parts = number > PART ? number / PART : 1;
            for (int part = 0; part < PARTS; part++) {
                all[part] = part < parts ? -1L : 0L;
            }
            if (number < PART) {
                all[0] = (1L << number) - 1;
            }
            System.arraycopy(all, 0, live, 0, PARTS);
        }

        boolean has(int kase) {
            return kase >= 0 && kase < number;
        }

        boolean isLive(int kase) {
            return (live[kase / PART] >> kase % PART & 1) == 1;
        }

        int flip(int kase) {
            live[kase / PART] ^= 1L << kase % PART;
            return isLive(kase) ? 0 : 1;
        }

        int freeCount() {
            int count = number;
            for (int part = 0; part < PARTS; part++) {
                count -= Long.bitCount(live[part]);
            }
            return count;
        }

        /** The least CASE of a part's word, which is not 0. */
        static int lowest(int part, long word) {
            return PART * part + Long.bitCount((word & -word) - 1);
        }
    }

    /** Tries ASSIGNMENTS at POINTS of OLD, 64 CASES at once. Both NETS are fresh whenever it works. */
    private static final class Mender {
        private final Net old;
        private final Net wish;
        private final Cases cases;
        final int[] points = new int[MOST_POINTS];
        int number;
        /** A bit for each POINT, by WIRE. */
        long mask;
        /** The values of OLD's WIRES in what is loaded, and those that its OBSERVED are to have. */
        private final long[] now = new long[MOST_WIRES];
        private final long[] due = new long[MOST_SEEN];
        /** The GATES that HANG on a POINT and are none: those alone are made anew for an ASSIGNMENT. */
        private final int[] cone = new int[OLD_GATES];
        private int coneSize;
        /** For each OBSERVED that is other than WISH's: what it HANGS on. */
        private final long[] wrong = new long[MOST_SEEN];
        private int wrongCount;
        /**
         * What is loaded for eight CASES at which sets of a search failed: the next one is likely to fail
         * there too. Bit 8 q + c is for the c-th of them, with the ASSIGNMENT q.
         */
        private final long[] hardNow = new long[MOST_WIRES];
        private final long[] hardDue = new long[MOST_SEEN];
        private int hardNext;

        Mender(Net oldNet, Net wishNet, Cases someCases) {
            old = oldNet;
            wish = wishNet;
            cases = someCases;
        }

        /** Whether these are 1 to 3 GATES, rising (-1 where there are fewer); if so it works for them. */
        boolean aim(int a, int b, int c) {
            if (!old.plan.isGate(a)) {
                return false;
            }
            if (b == -1 ? c != -1 : b <= a || !old.plan.isGate(b)) {
                return false;
            }
            if (c != -1 && (c <= b || !old.plan.isGate(c))) {
                return false;
            }
            points[0] = a;
            points[1] = b;
            points[2] = c;
            number = b == -1 ? 1 : c == -1 ? 2 : 3;
            mask = 0;
            for (int k = 0; k < number; k++) {
                mask |= 1L << points[k];
            }
            return true;
        }

        int assignments() {
            return 1 << number;
        }

        private long difference(int part) {
            long differing = 0;
            for (int i = 0; i < old.plan.seenCount(); i++) {
                differing |= old.words[PARTS * old.plan.seen[i] + part]
                    ^ wish.words[PARTS * wish.plan.seen[i] + part];
            }
            return differing & cases.live[part];
        }

        int firstDifference() {
            for (int part = 0; part < cases.parts; part++) {
                long differing = difference(part);
                if (differing != 0) {
                    return Cases.lowest(part, differing);
                }
            }
            return SAME;
        }

        void load(int part) {
            for (int w = 0; w < old.plan.wires(); w++) {
                now[w] = old.words[PARTS * w + part];
            }
            for (int i = 0; i < wish.plan.seenCount(); i++) {
                due[i] = wish.words[PARTS * wish.plan.seen[i] + part];
            }
            findCone();
        }

        private void findCone() {
            coneSize = 0;
            for (int i = 0; i < old.plan.gates; i++) {
                int g = old.order[i];
                if ((old.below[g] & mask) != 0 && (mask >> g & 1) == 0) {
                    cone[coneSize] = g;
                    coneSize++;
                }
            }
        }

        /** The CASES of the loaded part that an ASSIGNMENT MENDS. */
        long mended(int assignment) {
            for (int k = 0; k < number; k++) {
                now[points[k]] = (assignment >> k & 1) == 1 ? -1L : 0L;
            }
            return matching();
        }

        /** The bits of what is loaded at which the values of the POINTS make each OBSERVED as it is due. */
        private long matching() {
            for (int i = 0; i < coneSize; i++) {
                int g = cone[i];
                now[g] = Net.made(old.plan.kinds[g], pinNow(g, 0), pinNow(g, 1), pinNow(g, 2));
            }
            long same = -1L;
            for (int i = 0; i < old.plan.seenCount(); i++) {
                same &= ~(now[old.plan.seen[i]] ^ due[i]);
            }
            return same;
        }

        private long pinNow(int gate, int pin) {
            int wire = old.plan.pins[PINS * gate + pin];
            return wire < 0 ? 0 : now[wire];
        }

        private long unmended(int part) {
            long left = cases.live[part];
            if (left == 0) {
                return 0;
            }
            load(part);
            for (int q = 0; q < assignments() && left != 0; q++) {
                left &= ~mended(q);
            }
            return left;
        }

        int firstUnmended() {
            for (int part = 0; part < cases.parts; part++) {
                long left = unmended(part);
                if (left != 0) {
                    return Cases.lowest(part, left);
                }
            }
            return SAME;
        }

        int leastMending(int kase) {
            load(kase / PART);
            for (int q = 0; q < assignments(); q++) {
                if ((mended(q) >> kase % PART & 1) == 1) {
                    return q;
                }
            }
            return UNABLE;
        }

        /** The row, all 0, gets the least ASSIGNMENT of each CASE that isn't FREE. */
        void writeLeast(long[] elements) {
            for (int part = 0; part < cases.parts; part++) {
                load(part);
                long left = cases.live[part];
                for (int q = 0; q < assignments(); q++) {
                    long here = mended(q) & left;
                    for (int bit = 0; bit < PART; bit++) {
                        if ((here >> bit & 1) == 1) {
                            elements[PART * part + bit] = q;
                        }
                    }
                    left &= ~here;
                }
            }
        }

        /** SAME, the first CASE whose element doesn't MEND it, or PLACE if the row ends ahead of one. */
        int firstMisjudged(long[] elements, int length) {
            for (int part = 0; part < cases.parts; part++) {
                load(part);
                int answer = firstMisjudgedIn(part, elements, length);
                if (answer != SAME) {
                    return answer;
                }
            }
            return SAME;
        }

        private int firstMisjudgedIn(int part, long[] elements, int length) {
            long right = 0;
            for (int q = 0; q < assignments(); q++) {
                right |= mended(q) & holders(part, elements, length, q);
            }
            for (int kase = PART * part; kase < cases.number && kase < PART * part + PART; kase++) {
                if (cases.isLive(kase)) {
                    if (kase >= length) {
                        return PLACE;
                    }
                    if ((right >> kase % PART & 1) == 0) {
                        return kase;
                    }
                }
            }
            return SAME;
        }

        /** The CASES of a part whose element is this ASSIGNMENT. */
        private static long holders(int part, long[] elements, int length, int assignment) {
            long found = 0;
            for (int bit = 0; bit < PART && PART * part + bit < length; bit++) {
                if (elements[PART * part + bit] == assignment) {
                    found |= 1L << bit;
                }
            }
            return found;
        }

        /** A search begins for a CASE that is a difference. */
        void startSearch(int difference) {
            findWrong();
            for (int c = 0; c < HARD; c++) {
                addHard(difference);
            }
        }

        /** Whether a set of so many POINTS is ENOUGH; if so it works for the first one. */
        boolean search(int size) {
            int end = old.plan.wires();
            for (int a = old.plan.sources(); a < end; a++) {
                if (size == 1 && isEnough(a, -1, -1)) {
                    return true;
                }
                for (int b = a + 1; b < end && size > 1; b++) {
                    if (size == 2 && isEnough(a, b, -1)) {
                        return true;
                    }
                    for (int c = b + 1; c < end && size > 2; c++) {
                        if (isEnough(a, b, c)) {
                            return true;
                        }
                    }
                }
            }
            return false;
        }

        private void findWrong() {
            wrongCount = 0;
            for (int i = 0; i < old.plan.seenCount(); i++) {
                int mine = old.plan.seen[i];
                int other = wish.plan.seen[i];
                for (int part = 0; part < cases.parts; part++) {
                    long differing = old.words[PARTS * mine + part] ^ wish.words[PARTS * other + part];
                    if ((differing & cases.live[part]) != 0) {
                        wrong[wrongCount] = old.below[mine];
                        wrongCount++;
                        break;
                    }
                }
            }
        }

        private boolean isEnough(int a, int b, int c) {
            if (!aim(a, b, c)) {
                return false;
            }
            for (int i = 0; i < wrongCount; i++) {
                if ((wrong[i] & mask) == 0) {
                    return false;
                }
            }
            if (failsHard()) {
                return false;
            }
            int kase = firstUnmended();
            if (kase != SAME) {
                addHard(kase);
            }
            return kase == SAME;
        }

        private boolean failsHard() {
            System.arraycopy(hardNow, 0, now, 0, old.plan.wires());
            System.arraycopy(hardDue, 0, due, 0, old.plan.seenCount());
            findCone();
            for (int k = 0; k < number; k++) {
                now[points[k]] = COUNTING[HARD_BITS + k];
            }
            long same = matching();
            long mended = 0;
            for (int q = 0; q < 1 << MOST_POINTS; q++) {
                mended |= same >> HARD * q;
            }
            return (~mended & (1 << HARD) - 1) != 0;
        }

        /** The CASE, not FREE, comes in the place of the one that has been there longest. */
        private void addHard(int kase) {
            long bits = FIRST_HARD << hardNext;
            for (int w = 0; w < old.plan.wires(); w++) {
                hardNow[w] = hardNow[w] & ~bits | bits & -(old.words[PARTS * w + kase / PART] >> kase % PART & 1);
            }
            for (int i = 0; i < wish.plan.seenCount(); i++) {
                long word = wish.words[PARTS * wish.plan.seen[i] + kase / PART];
                hardDue[i] = hardDue[i] & ~bits | bits & -(word >> kase % PART & 1);
            }
            hardNext = (hardNext + 1) % HARD;
        }
    }

    /** Functions of m WIRES as numbers: bit p is the value at PATTERN p. */
    private static final class Functions {
        /**
         * COST of each function of three WIRES, as the document counts it. A function of fewer WIRES
         * costs what it costs as one of three: a leaf ZERO in the place of a WIRE that does not matter
         * leaves a tree no greater.
         */
        private static final byte[] PRICES = {
            0, 2, 2, 1, 2, 1, 3, 2, 2, 2, 2, 3, 2, 3, 2, 1, 2, 1, 3, 2, 3, 2, 4, 4, 3, 3, 3, 3, 3, 3, 2, 2,
            2, 2, 2, 3, 3, 3, 3, 3, 2, 4, 2, 4, 3, 3, 3, 3, 2, 3, 2, 1, 3, 3, 2, 2, 3, 3, 3, 3, 1, 3, 4, 1,
            2, 2, 3, 3, 2, 3, 3, 3, 2, 4, 3, 3, 2, 4, 3, 3, 2, 3, 3, 3, 2, 1, 2, 2, 3, 3, 1, 3, 3, 3, 4, 1,
            2, 4, 3, 3, 3, 3, 1, 3, 4, 3, 2, 4, 2, 4, 4, 3, 2, 4, 3, 3, 3, 3, 4, 1, 2, 4, 4, 3, 4, 3, 3, 2,
            2, 3, 3, 4, 3, 4, 4, 2, 1, 4, 3, 3, 3, 3, 4, 2, 3, 4, 4, 2, 4, 2, 2, 4, 3, 2, 3, 3, 3, 3, 4, 2,
            1, 4, 3, 3, 3, 2, 3, 3, 2, 2, 0, 2, 3, 3, 3, 2, 3, 3, 4, 2, 3, 3, 4, 2, 3, 3, 3, 2, 3, 3, 2, 2,
            1, 4, 3, 2, 3, 3, 3, 3, 2, 2, 3, 3, 0, 2, 3, 2, 3, 3, 3, 3, 4, 2, 4, 2, 3, 3, 3, 3, 3, 2, 2, 2,
            2, 2, 3, 3, 3, 3, 3, 3, 4, 4, 2, 3, 2, 3, 1, 2, 0, 2, 3, 2, 3, 2, 2, 2, 2, 3, 1, 2, 1, 2, 2, 0,
        };

        /** The function that is 1 at all PATTERNS, which is the greatest number too. */
        static int ones(int m) {
            return (1 << (1 << m)) - 1;
        }

        static int price(int m, int f) {
            int wide = f;
            for (int j = m; j < MOST_TOLD; j++) {
                wide |= wide << (1 << j);
            }
            return wide < 0 || wide >= PRICES.length ? 0 : PRICES[wide];
        }

        /** The leaf that a function is, as node() tells it, or NONE. */
        static int leafOf(int m, int f) {
            if (f == 0) {
                return LEAF_ZERO;
            }
            if (f == ones(m)) {
                return LEAF_ONE;
            }
            for (int j = 0; j < m; j++) {
                if (f == ((int) COUNTING[j] & ones(m))) {
                    return LEAF + j;
                }
            }
            return NONE;
        }

        /** How the TREE of a function that is no leaf begins: 65536 KIND + 256 g + h. */
        static int split(int m, int f) {
            int rest = price(m, f) - 1;
            int other = ones(m) & ~f;
            if (price(m, other) == rest) {
                return other << 8;
            }
            for (int kind = AND; kind <= NOR; kind++) {
                for (int g = 0; g <= ones(m); g++) {
                    int h = mate(m, f, kind, g, rest - price(m, g));
                    if (h >= 0) {
                        return kind << 16 | g << 8 | h;
                    }
                }
            }
            return NONE;
        }

        /** The least h of this COST with which g makes f, or NONE. */
        private static int mate(int m, int f, int kind, int g, int cost) {
            if (cost < 0 || !canMake(m, f, kind, g)) {
                return NONE;
            }
            int from = kind == XOR ? f ^ g : 0;
            int to = kind == XOR ? f ^ g : ones(m);
            for (int h = from; h <= to; h++) {
                if (price(m, h) == cost && ((int) Net.made(kind, g, h, 0) & ones(m)) == f) {
                    return h;
                }
            }
            return NONE;
        }

        /** Whether any h at all makes f with g: it spares looking through all h. */
        private static boolean canMake(int m, int f, int kind, int g) {
            int other = ones(m) & ~f;
            switch (kind) {
                case AND: return (f & ~g) == 0;
                case OR: return (g & ~f) == 0;
                case NAND: return (other & ~g) == 0;
                case NOR: return (g & ~other) == 0;
                default: return true;
            }
        }
    }

    /** Finds the functions of a PATCH for POINTS that it has learnt of, by TOLD WIRES. */
    private static final class Finder {
        private final Net old;
        private final Cases cases;
        final int[] points = new int[PATCH_POINTS];
        int number;
        final int[] told = new int[MOST_TOLD];
        int tolds;
        /** For each ASSIGNMENT the CASES that it MENDS, in PARTS words. */
        private final long[] mends = new long[PARTS << PATCH_POINTS];
        /** For each ASSIGNMENT a bit for each PATTERN at which it is ALLOWED. */
        private final int[] allowed = new int[1 << PATCH_POINTS];
        /** By PATTERN, in the search of a CLASH: the ASSIGNMENTS that are left, and the first CASE. */
        private final int[] left = new int[1 << MOST_TOLD];
        private final int[] first = new int[1 << MOST_TOLD];
        final int[] functions = new int[PATCH_POINTS];
        int least;
        int clashFirst;
        int clashCase;

        Finder(Net oldNet, Cases someCases) {
            old = oldNet;
            cases = someCases;
        }

        /** Whether these are 0 to 3 WIRES of OLD, rising (-1 where there are fewer); if so they are TOLD. */
        boolean tell(int u, int v, int w) {
            Plan plan = old.plan;
            if (u != -1 && !plan.isWire(u) || v != -1 && !plan.isWire(v) || w != -1 && !plan.isWire(w)) {
                return false;
            }
            if (v != -1 && (u == -1 || v <= u) || w != -1 && (v == -1 || w <= v)) {
                return false;
            }
            told[0] = u;
            told[1] = v;
            told[2] = w;
            tolds = u == -1 ? 0 : v == -1 ? 1 : w == -1 ? 2 : 3;
            return true;
        }

        boolean toldHangOn(long mask) {
            for (int j = 0; j < tolds; j++) {
                if ((old.below[told[j]] & mask) != 0) {
                    return true;
                }
            }
            return false;
        }

        /** The mender works for 1 or 2 POINTS. */
        void learn(Mender mender) {
            number = Math.min(mender.number, PATCH_POINTS);
            for (int k = 0; k < number; k++) {
                points[k] = mender.points[k];
            }
            for (int part = 0; part < cases.parts; part++) {
                mender.load(part);
                for (int q = 0; q < 1 << number; q++) {
                    mends[PARTS * q + part] = mender.mended(q);
                }
            }
        }

        /** Finds which ASSIGNMENTS are ALLOWED: false if a PATTERN has none. */
        boolean allow() {
            Arrays.fill(allowed, 0);
            for (int p = 0; p < 1 << tolds; p++) {
                boolean any = false;
                for (int q = 0; q < 1 << number; q++) {
                    if (mendsAll(q, p)) {
                        allowed[q] |= 1 << p;
                        any = true;
                    }
                }
                if (!any) {
                    return false;
                }
            }
            return true;
        }

        private boolean mendsAll(int assignment, int pattern) {
            for (int part = 0; part < cases.parts; part++) {
                long failing = cases.live[part] & ~mends[PARTS * assignment + part];
                for (int j = 0; j < tolds && failing != 0; j++) {
                    long word = old.words[PARTS * told[j] + part];
                    failing &= (pattern >> j & 1) == 1 ? word : ~word;
                }
                if (failing != 0) {
                    return false;
                }
            }
            return true;
        }

        void findClash() {
            Arrays.fill(left, (1 << (1 << number)) - 1);
            Arrays.fill(first, NONE);
            for (int kase = 0; kase < cases.number; kase++) {
                if (cases.isLive(kase)) {
                    int p = patternOf(kase);
                    if (first[p] == NONE) {
                        first[p] = kase;
                    }
                    left[p] &= mendingSet(kase);
                    if (left[p] == 0) {
                        clashFirst = first[p];
                        clashCase = kase;
                        return;
                    }
                }
            }
        }

        private int patternOf(int kase) {
            int pattern = 0;
            for (int j = 0; j < tolds; j++) {
                long word = old.words[PARTS * told[j] + kase / PART];
                pattern |= (int) (word >> kase % PART & 1) << j;
            }
            return pattern;
        }

        /** A bit for each ASSIGNMENT that MENDS a CASE. */
        private int mendingSet(int kase) {
            int set = 0;
            for (int q = 0; q < 1 << number; q++) {
                set |= (int) (mends[PARTS * q + kase / PART] >> kase % PART & 1) << q;
            }
            return set;
        }

        /** What is ALLOWED has been found, and no PATTERN is without: the functions with the least COSTS. */
        void choose() {
            int ones = Functions.ones(tolds);
            if (number == 1) {
                functions[0] = cheapest(ones & ~allowed[0], ones & ~allowed[1]);
                functions[1] = 0;
                least = Functions.price(tolds, functions[0]);
                return;
            }
            least = PATCH_POINTS * MOST_COST + 1;
            for (int f = 0; f <= ones; f++) {
                int price = Functions.price(tolds, f);
                int must = ones & (~f & ~allowed[0] | f & ~allowed[1]);
                int mustNot = ones & (~f & ~allowed[2] | f & ~allowed[3]);
                if (price < least && (must & mustNot) == 0) {
                    int g = cheapest(must, mustNot);
                    int sum = price + Functions.price(tolds, g);
                    if (sum < least) {
                        least = sum;
                        functions[0] = f;
                        functions[1] = g;
                    }
                }
            }
        }

        /** Of the functions that are 1 at some PATTERNS and 0 at others the least one with the least COST. */
        private int cheapest(int must, int mustNot) {
            int found = must;
            int lowest = MOST_COST + 1;
            for (int f = must; f <= Functions.ones(tolds); f++) {
                if ((f & must) == must && (f & mustNot) == 0) {
                    int price = Functions.price(tolds, f);
                    if (price < lowest) {
                        lowest = price;
                        found = f;
                    }
                }
            }
            return found;
        }
    }

    /** The MARKED WIRES with their prices, and the search for the best set of them. */
    private static final class Marks {
        /** By WIRE: -1 if it isn't MARKED. */
        final int[] prices = new int[MOST_WIRES];
        int number;
        private final int[] usable = new int[MOST_MARKS];
        private int usableCount;
        private int bestU;
        private int bestV;
        private int bestW;
        private boolean found;
        int leastSum;

        void start() {
            Arrays.fill(prices, -1);
            number = 0;
        }

        void give(int wire, int price) {
            number += (price >= 0 ? 1 : 0) - (prices[wire] >= 0 ? 1 : 0);
            prices[wire] = price;
        }

        void forgetFrom(int wire) {
            for (int w = wire; w < MOST_WIRES; w++) {
                give(w, -1);
            }
        }

        /** Whether a set of MARKED WIRES can; then the finder holds its functions, and leastSum the sum. */
        boolean search(Finder finder, Net old, int point) {
            listUsable(old, point);
            found = false;
            tryOne(finder, -1, -1, -1);
            for (int i = 0; i < usableCount; i++) {
                tryOne(finder, usable[i], -1, -1);
            }
            tryTwos(finder);
            tryThrees(finder);
            if (found) {
                finder.tell(bestU, bestV, bestW);
                finder.allow();
                finder.choose();
            }
            return found;
        }

        private void listUsable(Net old, int point) {
            usableCount = 0;
            for (int w = 0; w < old.plan.wires() && usableCount < MOST_MARKS; w++) {
                if (prices[w] >= 0 && !old.hangsOn(w, point)) {
                    usable[usableCount] = w;
                    usableCount++;
                }
            }
        }

        private void tryTwos(Finder finder) {
            for (int i = 0; i < usableCount; i++) {
                for (int j = i + 1; j < usableCount; j++) {
                    tryOne(finder, usable[i], usable[j], -1);
                }
            }
        }

        private void tryThrees(Finder finder) {
            for (int i = 0; i < usableCount; i++) {
                for (int j = i + 1; j < usableCount; j++) {
                    for (int k = j + 1; k < usableCount; k++) {
                        tryOne(finder, usable[i], usable[j], usable[k]);
                    }
                }
            }
        }

        /** Sets come in the order in which they are preferred, so only a lesser sum displaces one. */
        private void tryOne(Finder finder, int u, int v, int w) {
            int sum = (u < 0 ? 0 : prices[u]) + (v < 0 ? 0 : prices[v]) + (w < 0 ? 0 : prices[w]);
            if (found && sum >= leastSum || !finder.tell(u, v, w) || !finder.allow()) {
                return;
            }
            finder.choose();
            sum += 10 * finder.least;
            if (!found || sum < leastSum) {
                found = true;
                leastSum = sum;
                bestU = u;
                bestV = v;
                bestW = w;
            }
        }
    }

    /** The PATCH that is kept, if one is, with the GATES of its TREES. */
    private static final class Patch {
        boolean kept;
        boolean placed;
        final int[] pointWires = new int[PATCH_POINTS];
        int points;
        final int[] toldWires = new int[MOST_TOLD];
        int tolds;
        final int[] functions = new int[PATCH_POINTS];
        /** For each POINT its whole TREE, told like a part of a GATE. */
        private final int[] roots = new int[PATCH_POINTS];
        int nodes;
        final int[] kinds = new int[MOST_NODES];
        final int[] firsts = new int[MOST_NODES];
        final int[] seconds = new int[MOST_NODES];
        final int[] owners = new int[MOST_NODES];
        final int[] spareOf = new int[MOST_NODES];
        /** The WIRES that the GATES became in OLD, while the PATCH is being APPLIED. */
        private final int[] made = new int[MOST_NODES];

        void drop() {
            kept = false;
        }

        void keep(Finder finder) {
            kept = true;
            placed = false;
            points = finder.number;
            tolds = finder.tolds;
            System.arraycopy(finder.points, 0, pointWires, 0, points);
            System.arraycopy(finder.told, 0, toldWires, 0, tolds);
            nodes = 0;
            for (int k = 0; k < points; k++) {
                functions[k] = finder.functions[k];
                roots[k] = grow(functions[k], k, 0);
            }
        }

        /** Each part costs less than the whole, so MOST_COST levels are the most that can come. */
        private int grow(int f, int owner, int depth) {
            int leaf = Functions.leafOf(tolds, f);
            if (leaf >= 0) {
                return leaf;
            }
            int split = Functions.split(tolds, f);
            if (split < 0 || depth > MOST_COST) {
                return NO_PART;
            }
            int kind = split >> 16;
            int left = grow(split >> 8 & 255, owner, depth + 1);
            int right = kind == NOT ? NO_PART : grow(split & 255, owner, depth + 1);
            if (nodes >= MOST_NODES) {
                return NO_PART;
            }
            kinds[nodes] = kind;
            firsts[nodes] = left;
            seconds[nodes] = right;
            owners[nodes] = owner;
            spareOf[nodes] = NO_PART;
            nodes++;
            return nodes - 1;
        }

        int gatesToAdd() {
            int added = nodes;
            for (int k = 0; k < points; k++) {
                if (roots[k] == LEAF_ZERO || roots[k] == LEAF_ONE) {
                    added++;
                }
            }
            return added;
        }

        /** Adds the GATES of a POINT's TREE, for which there is room, to OLD: the POINT's new WIRE. */
        int addTree(int k, Plan plan, Spares spares) {
            int home = plan.places[pointWires[k]];
            if (roots[k] == LEAF_ZERO || roots[k] == LEAF_ONE) {
                return plan.addGate(roots[k] == LEAF_ZERO ? ZERO : ONE, -1, -1, -1, home);
            }
            for (int i = 0; i < nodes; i++) {
                if (owners[i] == k) {
                    int place = placed ? spares.use(spareOf[i]) : home;
                    made[i] = plan.addGate(kinds[i], wireOf(firsts[i]), wireOf(seconds[i]), -1, place);
                }
            }
            return wireOf(roots[k]);
        }

        /** The WIRE of a part that is a GATE or a TOLD WIRE; no other comes within a TREE. */
        private int wireOf(int part) {
            if (part >= 0 && part < nodes) {
                return made[part];
            }
            return part >= LEAF && part < LEAF + tolds ? toldWires[part - LEAF] : -1;
        }
    }

    /** The SPARES, and the PLACING of a PATCH on them. */
    private static final class Spares {
        /** Above any sum of LENGTHS, and so low that sums of it stay numbers. */
        private static final int TOO_FAR = 1000000;
        int number;
        int usedMask;
        private final int[] kinds = new int[MOST_SPARES];
        private final int[] places = new int[MOST_SPARES];
        /** LENGTHS: MOST_SPARES for each GATE of the PATCH. */
        private final int[] lengths = new int[MOST_SPARES * MOST_NODES];
        /** By a set of SPARES that the first GATES have taken: the least LENGTHS of all the others. */
        private final int[] rest = new int[1 << MOST_SPARES];

        void start() {
            number = 0;
            usedMask = 0;
        }

        int addSpare(int kind, int place) {
            kinds[number] = kind;
            places[number] = place;
            number++;
            return number - 1;
        }

        /** It is USED from now on: its place. */
        int use(int spare) {
            if (spare < 0 || spare >= number) {
                return 0;
            }
            usedMask |= 1 << spare;
            return places[spare];
        }

        int settle(Patch patch, int[] wirePlaces) {
            if (patch.nodes > number) {
                return SPARE;
            }
            measure(patch, wirePlaces);
            for (int taken = (1 << number) - 1; taken >= 0; taken--) {
                rest[taken] = leastRest(taken, patch.nodes);
            }
            if (rest[0] >= TOO_FAR) {
                return SPARE;
            }
            choose(patch);
            return rest[0];
        }

        private void measure(Patch patch, int[] wirePlaces) {
            for (int i = 0; i < patch.nodes; i++) {
                for (int s = 0; s < number; s++) {
                    boolean fits = kinds[s] == patch.kinds[i] && (usedMask >> s & 1) == 0;
                    lengths[MOST_SPARES * i + s] = fits ? lengthOf(patch, i, places[s], wirePlaces) : TOO_FAR;
                }
            }
        }

        private static int lengthOf(Patch patch, int node, int place, int[] wirePlaces) {
            return distance(place, wirePlaces[patch.pointWires[patch.owners[node]]])
                + leafLength(patch, patch.firsts[node], place, wirePlaces)
                + leafLength(patch, patch.seconds[node], place, wirePlaces);
        }

        private static int leafLength(Patch patch, int part, int place, int[] wirePlaces) {
            if (part < LEAF || part >= LEAF + patch.tolds) {
                return 0;
            }
            return distance(place, wirePlaces[patch.toldWires[part - LEAF]]);
        }

        private static int distance(int one, int other) {
            return Math.abs(one % SIDE - other % SIDE) + Math.abs(one / SIDE - other / SIDE);
        }

        private int leastRest(int taken, int nodes) {
            int node = Integer.bitCount(taken);
            if (node >= nodes) {
                return 0;
            }
            int least = TOO_FAR;
            for (int s = 0; s < number; s++) {
                if ((taken >> s & 1) == 0) {
                    least = Math.min(least, lengths[MOST_SPARES * node + s] + rest[taken | 1 << s]);
                }
            }
            return least;
        }

        private void choose(Patch patch) {
            int taken = 0;
            for (int i = 0; i < patch.nodes; i++) {
                for (int s = 0; s < number; s++) {
                    if ((taken >> s & 1) == 0
                        && lengths[MOST_SPARES * i + s] + rest[taken | 1 << s] == rest[taken]) {
                        patch.spareOf[i] = s;
                        taken |= 1 << s;
                        break;
                    }
                }
            }
            patch.placed = true;
        }
    }

    /** What can be undone, and the CHANGES and TESTS of the last APPLYING. */
    private static final class Journal {
        private final Plan[] before = new Plan[MOST_UNDOS];
        private final int[] usedBefore = new int[MOST_UNDOS];
        int undos;
        /** Three numbers for each CHANGE, as change() tells them. */
        final int[] changes = new int[3 * (PINS * OLD_GATES + MOST_SEEN)];
        int changeCount;
        final int[] tests = new int[MOST_CASES];
        int testCount;
        /** The FUNCTIONS of the OBSERVED ahead of the APPLYING. */
        private final long[] was = new long[PARTS * MOST_SEEN];

        Journal() {
            for (int i = 0; i < MOST_UNDOS; i++) {
                before[i] = new Plan();
            }
        }

        void start() {
            undos = 0;
            changeCount = 0;
            testCount = 0;
        }

        /** OLD is fresh, and about to be changed by an APPLYING. */
        void open(Net old, int usedMask) {
            if (undos >= MOST_UNDOS) {
                forgetOldest();
            }
            before[undos].take(old.plan);
            usedBefore[undos] = usedMask;
            undos++;
            changeCount = 0;
            for (int i = 0; i < old.plan.seenCount(); i++) {
                System.arraycopy(old.words, PARTS * old.plan.seen[i], was, PARTS * i, PARTS);
            }
        }

        private void forgetOldest() {
            Plan oldest = before[0];
            for (int i = 1; i < MOST_UNDOS; i++) {
                before[i - 1] = before[i];
                usedBefore[i - 1] = usedBefore[i];
            }
            before[MOST_UNDOS - 1] = oldest;
            undos = MOST_UNDOS - 1;
        }

        /** OLD becomes as it was ahead of the last APPLYING: which SPARES were USED then. */
        int takeBack(Plan plan) {
            undos--;
            plan.take(before[undos]);
            return usedBefore[undos];
        }

        void replace(Plan plan, int point, int wire) {
            for (int g = plan.sources(); g < plan.wires(); g++) {
                for (int p = 0; p < PIN_COUNT[plan.kinds[g]]; p++) {
                    if (plan.pins[PINS * g + p] == point) {
                        plan.pins[PINS * g + p] = wire;
                        note(0, g, p);
                    }
                }
            }
            for (int i = 0; i < plan.seenCount(); i++) {
                if (plan.seen[i] == point) {
                    plan.seen[i] = wire;
                    boolean isOutput = i < plan.outputs;
                    note(isOutput ? 1 : 2, isOutput ? i : i - plan.outputs, 0);
                }
            }
        }

        private void note(int sort, int which, int pin) {
            if (3 * changeCount + 2 < changes.length) {
                changes[3 * changeCount] = sort;
                changes[3 * changeCount + 1] = which;
                changes[3 * changeCount + 2] = pin;
                changeCount++;
            }
        }

        /** OLD is fresh again, behind the APPLYING. */
        void findTests(Net old, Cases cases) {
            testCount = 0;
            for (int kase = 0; kase < cases.number; kase++) {
                if (cases.isLive(kase) && differs(old, kase)) {
                    tests[testCount] = kase;
                    testCount++;
                }
            }
        }

        private boolean differs(Net old, int kase) {
            for (int i = 0; i < old.plan.seenCount(); i++) {
                long now = old.words[PARTS * old.plan.seen[i] + kase / PART];
                if (((now ^ was[PARTS * i + kase / PART]) >> kase % PART & 1) == 1) {
                    return true;
                }
            }
            return false;
        }
    }

    /** A TAPE: nothing, a row, or an IMAGE. Its rows are held as longs, narrowed to their sort. */
    private static final class Tape {
        /** 0 for nothing. */
        int sort;
        int length;
        final long[] elements = new long[MOST_ELEMENTS];
        final Plan plan = new Plan();

        /** The elements are all 0; the length is at most MOST_ELEMENTS. */
        void hold(int newSort, int newLength) {
            sort = newSort;
            length = newLength;
            Arrays.fill(elements, 0);
        }

        boolean isRow() {
            return sort >= BYTES && sort <= LONGS;
        }

        boolean hasElement(int i) {
            return i >= 0 && i < length;
        }

        boolean hasElements(int from, int n) {
            return from >= 0 && n >= 0 && n <= length - from;
        }

        long narrowed(long v) {
            switch (sort) {
                case BYTES: return (byte) v;
                case SHORTS: return (short) v;
                case INTS: return (int) v;
                default: return v;
            }
        }
    }
}
