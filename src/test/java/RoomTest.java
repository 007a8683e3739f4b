import java.lang.management.ManagementFactory;
import java.lang.reflect.Array;
import java.lang.reflect.Field;
import java.lang.reflect.Modifier;
import java.util.ArrayDeque;
import java.util.Collections;
import java.util.Deque;
import java.util.IdentityHashMap;
import java.util.Set;

/**
 * All calls of a run share one room, so an object is small, stays as small however often it is
 * called, and its calls make nothing new, but for an image that is kept for the first time.
 */
public final class RoomTest {
    /** A new object, and one with both images: far below what some thousand objects in one room may have. */
    private static final int MOST_OBJECTS = 50, MOST_ELEMENTS = 900;
    private static final int OBJECTS_WITH_IMAGES = 80, ELEMENTS_WITH_IMAGES = 1200;
    /** The machine's own noise; one object for each call would be far more. */
    private static final long NOISE = 20000;

    private static int wrong = 0;

    public static void main(String[] args) throws ReflectiveOperationException {
        CellarTides x = new CellarTides();
        int[] first = count(x);
        due("a new object has " + first[0] + " objects", first[0] <= MOST_OBJECTS);
        due("a new object has " + first[1] + " elements", first[1] <= MOST_ELEMENTS);
        callAll(x);
        int[] then = count(x);
        due("with images it has " + then[0] + " objects", then[0] <= OBJECTS_WITH_IMAGES);
        due("with images it has " + then[1] + " elements", then[1] <= ELEMENTS_WITH_IMAGES);
        for (int i = 0; i < 2000; i++) callAll(x);
        int[] late = count(x);
        due("it grew to " + late[0] + " objects, " + late[1] + " elements", late[0] == then[0] && late[1] == then[1]);
        made(x);
        System.out.println("room: " + first[0] + " objects, " + first[1] + " elements; " + wrong + " wrong");
        if (wrong != 0) System.exit(1);
    }

    private static void due(String what, boolean holds) {
        if (holds) return;
        wrong++;
        System.out.println("room: " + what);
    }

    private static void made(CellarTides x) {
        if (!(ManagementFactory.getThreadMXBean() instanceof com.sun.management.ThreadMXBean bean)) return;
        long id = Thread.currentThread().getId();
        bean.getThreadAllocatedBytes(id);
        long before = bean.getThreadAllocatedBytes(id);
        for (int i = 0; i < 5000; i++) callAll(x);
        long bytes = bean.getThreadAllocatedBytes(id) - before;
        due("5000 times all calls made " + bytes + " bytes", bytes <= NOISE);
    }

    /** Every call once or more, in a town with all barrels, sights, a long pad and both images. */
    private static void callAll(CellarTides x) {
        x.cellars(6);
        x.wipe();
        for (int i = 0; i < 12; i++) x.say('0' + (i * 7) % 10);
        x.fault(0);
        x.table();
        for (int b = 0; b < 8; b++) x.barrel(b, b % 6, b + 1, b % 3, b % 4);
        x.cellar(0, 0, 2);
        x.wall(5, true);
        x.set(0, 12);
        x.seen(1, 4, 3);
        x.image(0);
        x.image(1);
        x.say('0');
        x.say('b');
        x.say('.');
        x.fault(1);
        x.level(5);
        x.breath(1, 5);
        x.judge(2);
        x.behind(0, 1);
        x.hands();
        x.acid(0, 99);
        x.sours(0);
        x.lost(9);
        x.plan(15, 4, 1);
        x.value(1, 3);
        x.opening(1, 0);
        x.banquet(0);
        x.poured(7, 2);
        x.likely(1, 5, 3, 0);
        x.mean(3, 3, 0);
        x.walls();
        x.moons();
        x.open(0);
        x.shifts(3, 2, 1);
        x.drought(9);
        x.quiet(1);
        x.period();
        x.year(5, 30, 3, 0);
        x.told(801);
        x.drink(7);
        x.forget();
        x.restore(0);
    }

    /** Objects and arrays that can be reached from one, and their fields and elements. */
    private static int[] count(Object root) throws ReflectiveOperationException {
        Set<Object> known = Collections.newSetFromMap(new IdentityHashMap<>());
        Deque<Object> open = new ArrayDeque<>();
        open.add(root);
        known.add(root);
        int elements = 0;
        while (!open.isEmpty()) {
            Object one = open.remove();
            if (one.getClass().isArray()) {
                for (int i = 0; i < Array.getLength(one); i++) {
                    elements++;
                    if (!one.getClass().getComponentType().isPrimitive()) reach(Array.get(one, i), known, open);
                }
                continue;
            }
            for (Field field : one.getClass().getDeclaredFields()) {
                if (Modifier.isStatic(field.getModifiers())) continue;
                elements++;
                field.setAccessible(true);
                if (!field.getType().isPrimitive()) reach(field.get(one), known, open);
            }
        }
        return new int[] {known.size(), elements};
    }

    private static void reach(Object one, Set<Object> known, Deque<Object> open) {
        if (one != null && known.add(one)) open.add(one);
    }
}
