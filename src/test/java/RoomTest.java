import java.lang.management.ManagementFactory;
import java.lang.reflect.Array;
import java.lang.reflect.Field;
import java.lang.reflect.Modifier;
import java.util.ArrayDeque;
import java.util.Collections;
import java.util.IdentityHashMap;
import java.util.Set;

/** All calls of a run live in one room: an object holds few others, which the constructor makes; no call makes any. */
public final class RoomTest {
    private static final int MOST_OBJECTS = 150, MOST_ELEMENTS = 2000, RUNS = 200;
    private static int wrong = 0;

    public static void main(String[] args) throws Exception {
        DragonTithe x = new DragonTithe();
        int[] first = held(x);
        fail(first[0] > MOST_OBJECTS, "a new object holds " + first[0] + " objects and arrays");
        fail(first[1] > MOST_ELEMENTS, "a new object holds " + first[1] + " fields and elements");
        oneRun(x);
        int[] then = held(x);
        fail(first[0] != then[0] || first[1] != then[1], "a run leaves " + then[0] + " objects, " + then[1] + " fields and elements");
        made();
        System.out.println(wrong == 0 ? "RoomTest: " + first[0] + " objects, " + first[1] + " fields and elements, no call makes any"
            : wrong + " are not as due");
        if (wrong != 0) System.exit(1);
    }

    private static void fail(boolean broken, String what) {
        if (broken) { wrong++; System.out.println(what); }
    }

    /** How many objects and arrays there are from this one on, and how many fields and elements they have. */
    private static int[] held(Object root) throws IllegalAccessException {
        Set<Object> seen = Collections.newSetFromMap(new IdentityHashMap<>());
        ArrayDeque<Object> left = new ArrayDeque<>();
        left.add(root);
        seen.add(root);
        int elements = 0;
        while (!left.isEmpty()) {
            Object at = left.poll();
            if (at.getClass().isArray()) {
                elements += Array.getLength(at);
                if (at instanceof Object[] row) for (Object part : row) if (part != null && seen.add(part)) left.add(part);
                continue;
            }
            for (Field f : at.getClass().getDeclaredFields()) {
                if (Modifier.isStatic(f.getModifiers())) continue;
                elements++;
                f.setAccessible(true);
                if (!f.getType().isPrimitive() && seen.add(f.get(at))) left.add(f.get(at));
            }
        }
        return new int[] {seen.size(), elements};
    }

    /** The machine's own count of what the thread made, over runs that hold every call, also those that are refused. */
    private static void made() {
        var threads = (com.sun.management.ThreadMXBean) ManagementFactory.getThreadMXBean();
        long id = Thread.currentThread().getId();
        DragonTithe[] objects = new DragonTithe[RUNS];
        for (int i = 0; i < RUNS; i++) objects[i] = new DragonTithe();
        oneRun(new DragonTithe());
        threads.getThreadAllocatedBytes(id);
        long before = threads.getThreadAllocatedBytes(id);
        for (int i = 0; i < RUNS; i++) oneRun(objects[i]);
        long bytes = threads.getThreadAllocatedBytes(id) - before;
        // The smallest object has 16 bytes: were one made in each run, there would be more.
        fail(bytes >= 16 * RUNS, "in " + RUNS + " runs " + bytes + " bytes were made");
    }

    private static long oneRun(DragonTithe x) {
        long sum = x.county(5) + x.county(6) + x.clear();
        for (int i = 0; i < 11; i++) sum += x.lot(i % 6, i % 5, 99 - i);
        for (int a = 0; a < 5; a++) for (int b = 0; b < 5; b++) sum += x.road(a, b);
        for (int k = 0; k < 11; k++) sum += x.guard(k, k % 3 == 0) + x.cloud(k, k) + x.told(k, k);
        for (int i = 0; i < 151; i++) sum += x.type("county5;road0 1;guard0;lot0 0 9;growth1;cloud1 2; ".charAt(i % 50));
        sum += x.growth(9) + x.image(0) + x.image(2) + x.move(0, 4) + x.drive(1, 0, 1) + x.drive(0, 1, 99);
        for (int i = 0; i < 12; i++) sum += x.moon(i, i % 2 == 0);
        for (int what = 0; what < 4; what++) sum += asked(x, what);
        sum += x.read() + x.clear();
        for (int i = 0; i < 49; i++) sum += x.type("county5;road0 1;guard0;lot0 0 9;growth1;cloud1 2;".charAt(i));
        return sum + x.read() + x.undo() + x.from(0) + x.undo() + x.drop() + x.digest();
    }

    private static long asked(DragonTithe x, int what) {
        return x.of(9, what) + x.village(4, what) + x.greatest(what) + x.least(what, 2, what) + x.chance(what) + x.mean(what) + x.share(what)
            + x.painting(what, 99) + x.unseen(what, 4) + x.cut(what, 4, what) + x.game(what, 4, what) + x.league(31 - what) + x.pays(what, 40)
            + x.fit(what, 0) + x.drawn(60, what) + x.part(what) + x.status(what) + x.count(what) + x.digest();
    }
}
