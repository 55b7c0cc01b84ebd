import com.sun.management.ThreadMXBean;
import java.lang.management.ManagementFactory;
import java.lang.reflect.Array;
import java.lang.reflect.Field;
import java.lang.reflect.Modifier;
import java.util.Collections;
import java.util.IdentityHashMap;
import java.util.Set;

/** All calls of a run live in one room: a new object is small, and no call makes anything. */
final class RoomTest {
    public static void main(String[] args) throws IllegalAccessException {
        Set<Object> seen = Collections.newSetFromMap(new IdentityHashMap<>());
        long elements = elements(new PuncturesAreViews(), seen);
        Check.holds("objects are few: " + seen.size(), seen.size() < 100);
        Check.holds("elements are few: " + elements, elements < 5000);
        makesNothing();
        Check.end();
    }

    private static long elements(Object o, Set<Object> seen) throws IllegalAccessException {
        if (o == null || o instanceof String || !seen.add(o)) {
            return 0;
        }
        long count = 0;
        if (o.getClass().isArray()) {
            count = Array.getLength(o);
            for (int i = 0; i < Array.getLength(o) && !o.getClass().getComponentType().isPrimitive(); i++) {
                count += elements(Array.get(o, i), seen);
            }
            return count;
        }
        for (Field f : o.getClass().getDeclaredFields()) {
            if (!Modifier.isStatic(f.getModifiers())) {
                f.setAccessible(true);
                count += 1 + (f.getType().isPrimitive() ? 0 : elements(f.get(o), seen));
            }
        }
        return count;
    }

    private static void makesNothing() {
        ThreadMXBean threads = (ThreadMXBean) ManagementFactory.getThreadMXBean();
        long id = Thread.currentThread().getId();
        // the first round makes what the measuring itself makes
        for (int round = 0; round < 2; round++) {
            PuncturesAreViews x = new PuncturesAreViews();
            long ahead = threads.getThreadAllocatedBytes(id);
            allCalls(x);
            long made = threads.getThreadAllocatedBytes(id) - ahead;
            Check.holds("bytes made by calls: " + made, round == 0 || made < 256);
        }
    }

    private static void allCalls(PuncturesAreViews x) {
        x.set(1, 4, 5);
        for (int letter = 97; letter < 107; letter++) {
            x.feed(letter);
        }
        x.text();
        x.force(0);
        x.image();
        x.back();
        for (int one = 0; one < 3; one++) {
            x.rider(one, 3, 2);
            x.told(one, 8);
            x.step(one);
            x.run(one, 60, 0);
            x.takes(one);
            x.fewest(one);
            x.ease(one, 0);
            x.change(one, 0);
            x.bears(one, 20);
            x.all(2);
            x.spread(0);
            x.film(one, one, 30);
            for (int what = 0; what < 34; what++) {
                x.tells(one, one, what);
            }
            x.drawn(one, one);
            x.chance(one, 20, one, 25, 0);
            x.count(one);
            x.sheet(one, 0, 30);
            x.cell(one, 1, 1);
            x.copy(one, 0, one, 1, 9);
            x.riders(one, 0, 1, 5);
            x.taken(one, 0);
        }
        x.day(30);
    }
}
