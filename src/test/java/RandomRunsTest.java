import java.lang.reflect.InvocationTargetException;
import java.lang.reflect.Method;
import java.util.ArrayList;
import java.util.HashMap;
import java.util.List;
import java.util.Map;
import java.util.Random;
import java.util.TreeMap;

/**
 * Runs of calls, made from numbered seeds, on a GatePatch and on the Model: each answer must be the
 * same. An exception that the machine throws shows here too, as an answer that is not the Model's.
 *
 * <p>Arguments: the number of runs, and the first seed (both may be left out).
 */
public final class RandomRunsTest {
    private static final int MOST_CALLS = 512;
    private static final Map<String, Method> REAL = methods(GatePatch.class);
    private static final Map<String, Method> PLAIN = methods(Model.class);
    private static final TreeMap<String, Integer> ANSWERS = new TreeMap<>();

    private final Random random;
    private final GatePatch real = new GatePatch();
    private final Model model = new Model();
    private final List<String> log = new ArrayList<>();
    private int most;
    private boolean same = true;

    private RandomRunsTest(long seed) {
        random = new Random(seed * 1000003 + 17);
        most = random.nextInt(4) == 0 ? 380 : 60 + random.nextInt(150);
    }

    public static void main(String[] args) {
        int runs = args.length > 0 ? Integer.parseInt(args[0]) : 3000;
        int first = args.length > 1 ? Integer.parseInt(args[1]) : 0;
        for (int seed = first; seed < first + runs; seed++) {
            RandomRunsTest run = new RandomRunsTest(seed);
            if (!run.go()) {
                System.out.println("seed " + seed + ":");
                for (String line : run.log) System.out.println("  " + line);
                System.exit(1);
            }
        }
        if (args.length > 2) ANSWERS.forEach((k, n) -> System.out.println(k + " " + n));
        for (String needed : NEEDED) {
            if (!ANSWERS.containsKey(needed)) {
                System.out.println("no run came to " + needed);
                System.exit(1);
            }
        }
        System.out.println(runs + " runs are as the model's");
    }

    /** Answers without which the runs would be too tame to show anything. */
    private static final String[] NEEDED = {
        "gate -3", "gate -1", "rewire -2", "rewire -1", "points 0", "points 1", "points 2", "points 3", "points -4",
        "mend -4", "mend 5", "witness -4", "judge 1000", "judge -11", "judge -12", "judge -13", "patch -2", "patch -4",
        "patch 0", "patch 2", "patch 4", "mark -3", "best -4", "best 3", "node 200x", "place -5", "place +",
        "apply -3", "apply -1", "apply 0", "apply 4", "undo -1", "undo 3", "spare -3", "back -4", "back -11", "back -12",
        "toss -15", "tape -14", "copy -13", "copy -12", "copy -11", "at throws.IllegalStateException",
        "at throws.IllegalArgumentException", "row throws.IllegalArgumentException",
    };

    private static Map<String, Method> methods(Class<?> type) {
        Map<String, Method> found = new HashMap<>();
        for (Method m : type.getDeclaredMethods()) {
            if (java.lang.reflect.Modifier.isPublic(m.getModifiers())) found.put(m.getName(), m);
        }
        return found;
    }

    private static String answer(Method method, Object on, Object[] args) {
        try {
            return String.valueOf(((Number) method.invoke(on, args)).longValue());
        } catch (InvocationTargetException e) {
            return "throws." + e.getCause().getClass().getSimpleName();
        } catch (IllegalAccessException e) {
            throw new AssertionError(e);
        }
    }

    private long call(String name, long... given) {
        if (!same || log.size() >= most) return Model.NONE;
        Class<?>[] types = REAL.get(name).getParameterTypes();
        Object[] args = new Object[given.length];
        StringBuilder text = new StringBuilder(name).append('(');
        for (int i = 0; i < given.length; i++) {
            if (types[i] == int.class) args[i] = (int) given[i]; else args[i] = given[i];
            text.append(i == 0 ? "" : ", ").append(args[i]);
        }
        String got = answer(REAL.get(name), real, args);
        String due = answer(PLAIN.get(name), model, args);
        log.add(text + ") answered " + got + (got.equals(due) ? "" : ", due is " + due));
        tell(name, due);
        same = got.equals(due);
        return due.startsWith("throws") ? Model.NONE : Long.parseLong(due);
    }

    private static void tell(String name, String due) {
        ANSWERS.merge(name + " " + due, 1, Integer::sum);
        if (!due.startsWith("-") && !due.startsWith("throws")) ANSWERS.merge(name + " +", 1, Integer::sum);
    }

    private int pick(int bound) { return random.nextInt(Math.max(1, bound)); }
    private boolean chance(int percent) { return random.nextInt(100) < percent; }

    /** Mostly a number below the bound, at times one just beside, at times a wild one. */
    private int near(int bound) {
        int dice = random.nextInt(100);
        if (dice < 92) return pick(bound);
        if (dice < 95) return -1;
        if (dice < 98) return bound;
        return new int[] {Integer.MIN_VALUE, Integer.MAX_VALUE, -2, 1000, 64, -1000}[random.nextInt(6)];
    }

    private int wire(int net) { return near((net == 0 ? model.old : model.wish).wires()); }
    private int netNumber() { return chance(98) ? random.nextInt(2) : near(2); }

    private int oldGate() {
        int sources = model.old.i + model.old.s;
        return chance(95) ? sources + pick(model.old.gates.size()) : near(model.old.wires() + 1);
    }

    private boolean go() {
        start();
        while (same && log.size() < most) step();
        sweep();
        return same;
    }

    private void start() {
        if (chance(25)) {
            startFunctions();
            return;
        }
        int sources = chance(15) ? 7 + random.nextInt(2) : 1 + random.nextInt(5);
        int stores = Math.min(sources, random.nextInt(3));
        if (chance(90)) call("begin", sources - stores, stores, 1 + random.nextInt(chance(50) ? 1 : 4));
        build(chance(6) ? 38 : 1 + random.nextInt(10));
        if (chance(60)) for (int s = random.nextInt(12); s >= 0; s--) randomSpare();
        if (chance(70)) for (int w = 0; w < model.old.wires(); w++) call("site", w, random.nextInt(32), random.nextInt(32));
        if (chance(70)) for (int i = random.nextInt(8); i >= 0; i--) call("mark", wire(0), random.nextInt(10));
    }

    /** WISH's outputs are functions of three WIRES, as they come: the PATCHES have many GATES. */
    private void startFunctions() {
        int sources = 3 + random.nextInt(2);
        call("begin", sources, 0, 2);
        for (int g = 0; g < 2 + random.nextInt(2); g++) call("gate", 0, 1 + random.nextInt(5), pick(sources), pick(sources), -1);
        long zero = call("gate", 1, 7, -1, -1, -1);
        long one = call("gate", 1, 8, -1, -1, -1);
        int second = chance(50) ? sources + 1 : sources;
        call("out", 0, 0, sources);
        call("out", 0, 1, second);
        call("out", 1, 0, table(random.nextInt(256), 2, zero, one));
        call("out", 1, 1, second == sources ? model.wish.outs[0] : table(random.nextInt(256), 2, zero, one));
        for (int w = 0; w < model.old.wires(); w++) call("site", w, random.nextInt(32), random.nextInt(32));
        for (int s = 0; s < 12; s++) call("spare", chance(80) ? 1 + s % 5 : 0, random.nextInt(32), random.nextInt(32));
        for (int k = random.nextInt(3); k > 0; k--) call("free", pick(model.cases()));
        for (int w = 0; w < sources; w++) call("mark", w, random.nextInt(10));
        if (chance(20)) call("best", sources);
        call("patch", sources, second == sources ? -1 : second, 0, 1, 2);
        describe();
        call("place");
        describe();
        if (chance(80)) applied();
    }

    /** A WIRE of WISH with this function of the inputs 0 to input. */
    private long table(int f, int input, long zero, long one) {
        if (input < 0) return (f & 1) == 1 ? one : zero;
        int half = 1 << input;
        long high = table(f >> half, input - 1, zero, one);
        long low = table(f & (1 << half) - 1, input - 1, zero, one);
        return high == low ? high : call("gate", 1, 6, input, high, low);
    }

    /** WISH becomes OLD with some other GATES, so that POINTS and PATCHES are found. */
    private void build(int gates) {
        int others = random.nextInt(4);
        for (int g = 0; g < gates; g++) {
            int kind = chance(75) ? 1 + random.nextInt(5) : random.nextInt(9);
            int pins = Model.pinCount(kind);
            long[] pin = new long[3];
            for (int p = 0; p < 3; p++) pin[p] = p < pins ? someWire(0) : -1;
            call("gate", 0, kind, pin[0], pin[1], pin[2]);
            boolean other = random.nextInt(gates) < others && pins == 2;
            call("gate", 1, other ? 1 + random.nextInt(5) : kind, pin[0], pin[1], pin[2]);
        }
        for (int o = 0; o < model.old.o; o++) {
            int w = lateWire(0);
            call("out", 0, o, w);
            call("out", 1, o, chance(90) ? w : lateWire(1));
        }
        for (int s = 0; s < model.old.s; s++) {
            int w = lateWire(0);
            call("next", 0, s, w);
            call("next", 1, s, w);
        }
    }

    private int someWire(int net) {
        int wires = (net == 0 ? model.old : model.wish).wires();
        return chance(50) ? pick(wires) : wires - 1 - pick(Math.min(wires, 4));
    }

    private int lateWire(int net) {
        int wires = (net == 0 ? model.old : model.wish).wires();
        return wires - 1 - pick(Math.min(wires, 3));
    }

    private void randomSpare() { call("spare", chance(97) ? random.nextInt(6) : near(6), near(32), near(32)); }

    private void step() {
        int dice = random.nextInt(100);
        if (dice < 30) patchSteps();
        else if (dice < 45) pointSteps();
        else if (dice < 60) netSteps();
        else if (dice < 80) tapeSteps();
        else if (dice < 99) readSteps();
        else if (chance(40)) beginAgain();
    }

    /** At times with the same inputs, stores and outputs, so that an IMAGE can come back. */
    private void beginAgain() {
        int d = random.nextInt(6);
        if (chance(50)) {
            call("image", d);
            call("begin", model.old.i, model.old.s, model.old.o);
        } else {
            call("begin", near(7), near(3), near(5));
        }
        if (chance(70)) build(1 + random.nextInt(8));
        if (chance(50)) randomSpare();
        if (chance(70)) call("back", d);
    }

    private void patchSteps() {
        int a = model.kept.length > 0 && chance(70) ? model.kept[0] : oldGate();
        int b = model.kept.length > 1 && chance(90) ? model.kept[1] : chance(25) ? oldGate() : -1;
        long got = chance(30) ? call("best", a) : patchBy(a, b);
        if (got < 0 && chance(60)) return;
        describe();
        if (chance(70)) call("place");
        if (chance(30)) describe();
        if (chance(40)) netSteps();
        if (chance(80)) applied();
        if (chance(25)) call("undo");
    }

    private long patchBy(int a, int b) {
        List<Integer> usable = new ArrayList<>();
        for (int w = 0; w < model.old.wires(); w++) {
            boolean hangs = model.old.isGate(a) && model.old.hangs(w, a) || model.old.isGate(b) && model.old.hangs(w, b);
            if (!hangs || chance(5)) usable.add(w);
        }
        int n = chance(75) ? Math.min(3, usable.size()) : random.nextInt(4);
        while (usable.size() > n) usable.remove(random.nextInt(usable.size()));
        long[] told = {-1, -1, -1};
        for (int j = 0; j < usable.size(); j++) told[j] = usable.get(j);
        if (chance(5)) told[random.nextInt(3)] = wire(0);
        return call("patch", a, b, told[0], told[1], told[2]);
    }

    private void describe() {
        for (int what = 0; what < 4; what++) call("patched", what);
        for (int k = 0; k < 3; k++) call("function", k);
        for (int j = 0; j < 3; j++) call("told", j);
        if (model.patch != null) {
            for (int i = 0; i < model.patch.nodes.size(); i++) for (int what = 0; what < 5; what++) call("node", i, what);
            for (int root : model.patch.roots) if (root >= 200) ANSWERS.merge("node 200x", 1, Integer::sum);
        }
        call("node", near(3), near(5));
    }

    private void applied() {
        call("apply");
        if (chance(30)) {
            for (int i = 0; i <= model.changes.size(); i++) for (int what = 0; what < 3; what++) call("change", i, what);
            for (int i = 0; i < Math.min(10, model.tests.size() + 1); i++) call("test", i);
        }
        if (chance(30)) for (int s = 0; s <= model.spares.size(); s++) call("used", s);
        if (chance(30)) call("mark", lateWire(0), random.nextInt(10));
        if (chance(50)) call("differ");
    }

    private void pointSteps() {
        int a = oldGate();
        int b = chance(60) ? oldGate() : -1;
        int c = chance(50) ? oldGate() : -1;
        if (b != -1 && b < a && chance(90)) { int t = a; a = b; b = t; }
        int d = near(6);
        switch (random.nextInt(7)) {
            case 0: call("enough", a, b, c); break;
            case 1: call("points", model.old.gates.size() > 14 || model.cases() > 64 ? 1 : near(4)); break;
            case 2: call("mend", a, b, c, near(model.cases())); break;
            case 3: if (model.old.gates.size() <= 9 && model.cases() <= 32) call("points", 1 + random.nextInt(3)); break;
            case 4:
                call("witness", d, a, b, c);
                if (chance(60)) call("put", d, near(model.cases()), random.nextInt(12) - 2);
                call("judge", d, a, b, c);
                break;
            case 5: call("judge", d, a, b, c); break;
            default:
                if (call("points", 1 + random.nextInt(model.old.gates.size() > 12 ? 1 : 2)) > 0) {
                    long p = model.kept[0], q = model.kept.length > 1 ? model.kept[1] : -1;
                    call("witness", d, p, q, -1);
                    call("judge", d, p, q, -1);
                    call("mend", p, q, -1, near(model.cases()));
                }
        }
        if (chance(20)) for (int k = -1; k < 4; k++) call("point", k);
    }

    private void netSteps() {
        int n = netNumber();
        int gateOf = n == 1 ? model.wish.i + model.wish.s + pick(model.wish.gates.size()) : oldGate();
        switch (random.nextInt(12)) {
            case 0: call("gate", n, near(9), wire(n), chance(75) ? wire(n) : -1, chance(25) ? wire(n) : -1); break;
            case 1: case 2: call("rewire", n, gateOf, near(2), wire(n)); break;
            case 3: call("out", n, near(model.old.o), wire(n)); break;
            case 4: call("next", n, near(model.old.s), wire(n)); break;
            case 5: call("free", near(model.cases())); break;
            case 6: call("site", wire(0), near(32), near(32)); break;
            case 7: randomSpare(); break;
            case 8: case 9: call("mark", wire(0), near(11) - 1); break;
            case 10: call("delay", near(9), near(10)); break;
            default: call("undo");
        }
    }

    private void tapeSteps() {
        int d = near(6), e = near(6);
        switch (random.nextInt(10)) {
            case 0: call("tape", d, near(5), chance(80) ? near(12) : near(257)); break;
            case 1: call("image", d); break;
            case 2: call("back", d); break;
            case 3: call("toss", d); break;
            case 4: if (chance(30)) call("clear", d); break;
            case 5: case 6: call("put", d, near(10), chance(50) ? random.nextInt(300) - 150 : random.nextLong()); break;
            case 7: call("at", d, near(12)); break;
            default: call("copy", d, near(8), chance(40) ? d : e, near(8), near(8));
        }
    }

    private void readSteps() {
        int n = netNumber();
        switch (random.nextInt(12)) {
            case 0: call("value", n, wire(n), near(model.cases())); break;
            case 1: call("row", n, wire(n), near(4)); break;
            case 2: call("hangs", n, wire(n), wire(n)); break;
            case 3: call("differ"); break;
            case 4: call("clash", near(2)); break;
            case 5: { int m = near(4); call("cost", m, near(m == 3 ? 256 : m == 2 ? 16 : m == 1 ? 4 : 2)); break; }
            case 6: call("arrive", n, wire(n)); break;
            case 7: call("late", near(8)); break;
            case 8: call("idle", n); break;
            case 9: call("change", near(4), near(3)); break;
            case 10: call("test", near(4)); break;
            default: call("count", near(11));
        }
    }

    /** At the end all of the state is read, whatever the run's length was. */
    private void sweep() {
        most = MOST_CALLS;
        for (int what = 0; what < 11; what++) call("count", what);
        for (int net = 0; net < 2; net++) {
            for (int w = 0; w < (net == 0 ? model.old : model.wish).wires(); w++) {
                call("row", net, w, 0);
                call("arrive", net, w);
            }
        }
        for (int s = 0; s < 12; s++) call("used", s);
        for (int k = 0; k < 2; k++) call("clash", k);
    }
}
