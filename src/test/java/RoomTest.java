import java.lang.reflect.Array;
import java.lang.reflect.Field;
import java.lang.reflect.Modifier;
import java.util.ArrayDeque;
import java.util.Collections;
import java.util.IdentityHashMap;
import java.util.Set;

/**
 * What an object takes up: it is made with all its rows, and no call makes or drops one. The room is that
 * of a run with as many objects as the longest run has calls.
 */
public final class RoomTest {
    private static final int MOST_OBJECTS = 600000, MOST_ELEMENTS = 7300000, MOST_CALLS = 512;

    private final Set<Object> found = Collections.newSetFromMap(new IdentityHashMap<>());
    private long elements;

    public static void main(String[] args) throws IllegalAccessException {
        GatePatch x = new GatePatch();
        RoomTest before = new RoomTest(x);
        calls(x);
        boolean same = before.found.equals(new RoomTest(x).found);
        for (int scene = 0; scene < 4; scene++) same &= before.isLike(new RoomTest(Refusals.scene(scene)));
        boolean fits = before.found.size() * MOST_CALLS <= MOST_OBJECTS && before.elements * MOST_CALLS <= MOST_ELEMENTS;
        System.out.println("a GatePatch is " + before.found.size() + " objects, " + before.elements + " fields and elements"
            + (fits ? "" : ": too many") + (same ? "" : "; a call made or dropped some"));
        if (!fits || !same) System.exit(1);
    }

    private boolean isLike(RoomTest other) { return found.size() == other.found.size() && elements == other.elements; }

    /** Counts all that can be reached from an object. */
    private RoomTest(Object root) throws IllegalAccessException {
        ArrayDeque<Object> open = new ArrayDeque<>();
        open.add(root);
        while (!open.isEmpty()) {
            Object one = open.remove();
            if (!found.add(one)) continue;
            if (one.getClass().isArray()) row(one, open);
            else fields(one, open);
        }
    }

    private void row(Object one, ArrayDeque<Object> open) {
        int length = Array.getLength(one);
        elements += length;
        if (one.getClass().getComponentType().isPrimitive()) return;
        for (int i = 0; i < length; i++) if (Array.get(one, i) != null) open.add(Array.get(one, i));
    }

    private void fields(Object one, ArrayDeque<Object> open) throws IllegalAccessException {
        for (Field f : one.getClass().getDeclaredFields()) {
            if (Modifier.isStatic(f.getModifiers())) continue;
            elements++;
            f.setAccessible(true);
            if (!f.getType().isPrimitive() && f.get(one) != null) open.add(f.get(one));
        }
    }

    /** Each method of the face, answering something and refusing. */
    private static void calls(GatePatch x) {
        x.begin(2, 0, 1);
        x.gate(0, 1, 0, 1, -1);
        x.gate(1, 2, 0, 1, -1);
        x.rewire(0, 2, 0, 2);
        x.out(0, 0, 2);
        x.out(1, 0, 2);
        x.next(0, 0, 0);
        x.value(0, 2, 3);
        x.row(0, 2, 0);
        Nets.rowThrows(x, 2, 0, 0);
        x.hangs(0, 2, 0);
        x.differ();
        x.enough(2, -1, -1);
        x.points(3);
        x.point(0);
        x.mend(2, -1, -1, 1);
        x.witness(0, 2, -1, -1);
        x.judge(0, 2, -1, -1);
        x.patch(2, -1, -1, -1, -1);
        x.clash(0);
        x.mark(0, 1);
        x.mark(1, 1);
        x.best(2);
        x.cost(3, 105);
        x.site(0, 3, 3);
        x.spare(2, 4, 4);
        x.patch(2, -1, 0, 1, -1);
        x.patched(0);
        x.function(0);
        x.told(0);
        x.node(0, 0);
        x.place();
        x.used(0);
        x.delay(2, 3);
        x.arrive(0, 2);
        x.late(0);
        x.image(1);
        x.apply();
        for (int i = 0; i < 5; i++) {
            x.patch(3 + i, -1, 0, 1, -1);
            x.apply();
        }
        x.change(0, 0);
        x.test(0);
        x.undo();
        x.idle(0);
        x.toss(1);
        x.back(1);
        x.tape(2, 2, 7);
        x.tape(3, 2, 9);
        x.tape(2, 2, -1);
        x.put(2, 3, 99);
        x.at(2, 3);
        Nets.atThrows(x, 2, 9);
        x.copy(2, 0, 3, 1, 7);
        x.clear(3);
        x.count(10);
        x.free(0);
    }
}
