import java.lang.reflect.Array;
import java.lang.reflect.Field;
import java.lang.reflect.Modifier;
import java.util.ArrayDeque;
import java.util.Collections;
import java.util.IdentityHashMap;
import java.util.Set;

/** All calls of a run live in one room: an object is small, and no call replaces what it holds. */
public final class RoomTest {
    private static final int MOST_OBJECTS = 40;
    private static final int MOST_ELEMENTS = 3500;

    private long elements = 0;
    private final Set<Object> objects = Collections.newSetFromMap(new IdentityHashMap<>());

    private RoomTest() {
    }

    public static void main(String[] args) throws IllegalAccessException {
        FootprintNet net = new FootprintNet();
        RoomTest before = new RoomTest();
        before.walk(net);
        Check.holds(before.objects.size() + " objects", before.objects.size() <= MOST_OBJECTS);
        Check.holds(before.elements + " elements", before.elements <= MOST_ELEMENTS);
        useAll(net);
        RoomTest after = new RoomTest();
        after.walk(net);
        Check.holds("the same objects after all calls", after.objects.equals(before.objects));
        Check.end();
    }

    private static void useAll(FootprintNet net) {
        net.ends(1, 2);
        net.place(1, 2);
        net.play(0L);
        net.begin();
        net.event(3);
        net.mine();
        net.same();
        for (int which = 0; which <= 1; which++) {
            net.fits(which, 0);
            net.markings(which);
            net.sound(which);
            net.shape(which);
        }
        net.clear();
        net.reset();
    }

    private void walk(Object root) throws IllegalAccessException {
        ArrayDeque<Object> open = new ArrayDeque<>();
        open.add(root);
        while (!open.isEmpty()) {
            Object one = open.remove();
            if (!objects.add(one)) {
                continue;
            }
            if (one.getClass().isArray()) {
                elements += Array.getLength(one);
                continue;
            }
            for (Field f : one.getClass().getDeclaredFields()) {
                if (!Modifier.isStatic(f.getModifiers())) {
                    f.setAccessible(true);
                    elements++;
                    Object value = f.get(one);
                    if (!f.getType().isPrimitive() && value != null) {
                        open.add(value);
                    }
                }
            }
        }
    }
}
