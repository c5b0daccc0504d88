import java.lang.management.ManagementFactory;
import java.lang.reflect.Array;
import java.lang.reflect.Field;
import java.lang.reflect.Modifier;
import java.util.ArrayDeque;
import java.util.Collections;
import java.util.Deque;
import java.util.IdentityHashMap;
import java.util.Set;

/**
 * All calls of one run share room for 600,000 objects and 7.3 million fields and elements: an object takes a
 * small part of it, once, and no call takes more.
 */
public final class SpaceTest {
    private static final String HOUSE =
        "rooms 4;way 0 1 1 door;way 1 2 1 door;way 2 3 1 door;way 0 3 2 door;way 1 3 4 door;way 0 2 9 door;"
        + "bundle 3 5 9 1;".repeat(4) + "bundle 1 6 7 2;".repeat(4) + "bundle 0 9 4 3;".repeat(2)
        + "man 30;man 20;man 10;fire 3 60;";

    private static long objects = 0;
    private static long elements = 0;

    public static void main(String[] args) throws IllegalAccessException {
        CarryFirst x = Checks.in(HOUSE);
        count(x);
        System.out.println("one object takes " + objects + " objects, " + elements + " fields and elements");
        Checks.due("more than 200 objects", objects > 200 ? 1 : 0, 0);
        Checks.due("more than 11,000 fields and elements", elements > 11000 ? 1 : 0, 0);
        // the Java machine's own first uses are behind it then
        calls(x);
        calls(x);
        var threads = (com.sun.management.ThreadMXBean) ManagementFactory.getThreadMXBean();
        long id = Thread.currentThread().getId();
        threads.getThreadAllocatedBytes(id);
        long before = threads.getThreadAllocatedBytes(id);
        calls(x);
        long bytes = threads.getThreadAllocatedBytes(id) - before;
        Checks.due("bytes that calls took: " + bytes, bytes > 1000 ? 1 : 0, 0);
        Checks.end();
    }

    private static void calls(CarryFirst x) {
        x.back(0);
        x.keep(0);
        for (int a = 0; a < 4; a++) {
            x.room(a, a);
            x.way(a, a);
            x.bundle(a, a);
            x.one(a, a);
            x.all(a - 1);
            x.run(a, 9, a);
            x.doors(a);
            x.chance(a, 4 - a, 1);
            x.sure(a, 1, a);
            x.last(a, 1, 1);
            x.lost(a, 1);
            x.loads(a, 5, 9, 1);
            x.edge(a, 99);
            x.place(a, 2);
            x.price(a, 1);
            x.fetch(a, 1 << a);
            x.tune(4, a);
        }
        x.anew();
        // a text with a fault, and one without
        x.type(0x726f6f6d7320323bL, 8);
        x.type(0x6d616e20303bL, 6);
        x.house();
        x.clear();
    }

    private static void count(Object root) throws IllegalAccessException {
        Set<Object> seen = Collections.newSetFromMap(new IdentityHashMap<>());
        Deque<Object> open = new ArrayDeque<>();
        open.add(root);
        while (!open.isEmpty()) {
            Object o = open.pop();
            if (!seen.add(o)) continue;
            objects++;
            if (o.getClass().isArray()) countArray(o, open);
            else countFields(o, open);
        }
    }

    private static void countArray(Object array, Deque<Object> open) {
        int n = Array.getLength(array);
        elements += n;
        if (array.getClass().getComponentType().isPrimitive()) return;
        for (int i = 0; i < n; i++) if (Array.get(array, i) != null) open.add(Array.get(array, i));
    }

    private static void countFields(Object o, Deque<Object> open) throws IllegalAccessException {
        for (Field f : o.getClass().getDeclaredFields()) {
            if (Modifier.isStatic(f.getModifiers())) continue;
            elements++;
            f.setAccessible(true);
            if (!f.getType().isPrimitive() && f.get(o) != null) open.add(f.get(o));
        }
    }
}
