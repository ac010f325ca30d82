import com.sun.management.ThreadMXBean;
import java.lang.management.ManagementFactory;
import java.lang.reflect.Array;
import java.lang.reflect.Field;
import java.lang.reflect.Modifier;
import java.util.ArrayDeque;
import java.util.Collections;
import java.util.Deque;
import java.util.IdentityHashMap;
import java.util.Set;

/** How much room an object takes, and that its calls make no others: all calls of one run live in one room. */
public final class RoomTest {
    private static final int MOST_OBJECTS = 200;
    private static final int MOST_ELEMENTS = 40_000;
    /** The machine itself may take some, but a row made anew in each NIGHT takes far more. */
    private static final int SPARE_BYTES = 1024;
    private static final Due due = new Due();

    public static void main(String[] args) throws IllegalAccessException {
        LockRail x = fullRail();
        for (int k = 0; k < 3; k++) x.keep(k);
        size(x);
        allCalls(x);
        long bytes = bytesMadeBy(fullRail());
        due.is("an object's calls make no other objects: " + bytes + " bytes", 1, bytes <= SPARE_BYTES ? 1 : 0);
        due.close();
    }

    /** Behind the first keep of each image. */
    private static long bytesMadeBy(LockRail x) {
        for (int k = 0; k < 3; k++) x.keep(k);
        ThreadMXBean threads = (ThreadMXBean) ManagementFactory.getThreadMXBean();
        long id = Thread.currentThread().getId();
        threads.getThreadAllocatedBytes(id);
        long before = threads.getThreadAllocatedBytes(id);
        allCalls(x);
        return threads.getThreadAllocatedBytes(id) - before;
    }

    private static LockRail fullRail() {
        StringBuilder s = new StringBuilder("rail places 20 nights 60;mark price 2 known 40;watch wage 3 adds 2;");
        for (int i = 0; i < 4; i++) s.append("lamp at ").append(5 * i).append(" bright 3;");
        for (int i = 0; i < 5; i++) s.append("lock price ").append(20 * i).append(" cuts ").append(10 + i).append(" 20 ").append(30 - i).append(';');
        for (int i = 0; i < 10; i++) s.append("bike worth 900 seems ").append(200 + 7 * i % 10).append(" at ").append(2 * i).append(" lock ").append(i % 5).append(';');
        for (int i = 0; i < 6; i++) s.append("thief tool ").append(i % 3).append(" comes 40 fears ").append(40 + i).append(i % 2 == 0 ? " best;" : " any;");
        return Due.rail(s.toString());
    }

    /** Every call, and the dearest of them. */
    private static void allCalls(LockRail x) {
        x.light(1); x.bike(1, 1); x.trouble(1, 1); x.gain(1); x.takes(1, 5); x.wants(1); x.part(3); x.many(2); x.risk(3); x.has(1, 2);
        x.cost(1, 2); x.all(2); x.would(1, 3); x.best(1); x.restless(); x.settles(); x.settled(); x.good(); x.pair(1, 2); x.wasted();
        x.beside(1, 3, 2); x.worse(1, 3); x.next(1, 3); x.where(1); x.lamp(9); x.lit(3, 9); x.penny(); x.enough(); x.marks(); x.hides(1);
        x.bait(19, 300, 30); x.caught(1, 19, 300, 30); x.lures(19); x.cover(1, 5, 50); x.careless(1, 5, 50); x.law(2); x.laws(); x.rather(1, 1);
        x.run(5); x.taken(1); x.took(1); x.years(1, 100, 2); x.count(12); x.fault(0); x.watch(true);
        x.row(1, 1, 60); x.write(1, 3, 5); x.paste(1, 0, 1, 4, 9); x.told(1);
        x.option(1, 3); x.move(1, 3); x.swap(1, 2); x.settle(30); x.better(60); x.keep(1); x.back(2);
        x.feed(1, 2, 3, 4, 5); x.end(3); x.rail(); x.light(-1); x.back(5); x.beside(99, 99, 99);
    }

    /** Objects and arrays that can be reached, and their fields and elements. */
    private static void size(LockRail x) throws IllegalAccessException {
        Set<Object> seen = Collections.newSetFromMap(new IdentityHashMap<>());
        Deque<Object> open = new ArrayDeque<>();
        open.add(x);
        long elements = 0;
        while (!open.isEmpty()) {
            Object o = open.remove();
            if (!seen.add(o)) continue;
            if (o.getClass().isArray()) {
                elements += Array.getLength(o);
                if (o instanceof Object[] parts) for (Object part : parts) if (part != null) open.add(part);
                continue;
            }
            for (Field f : o.getClass().getDeclaredFields()) {
                if (Modifier.isStatic(f.getModifiers())) continue;
                elements++;
                f.setAccessible(true);
                if (!f.getType().isPrimitive() && f.get(o) != null) open.add(f.get(o));
            }
        }
        due.is("few objects: " + seen.size(), 1, seen.size() <= MOST_OBJECTS ? 1 : 0);
        due.is("few fields and elements: " + elements, 1, elements <= MOST_ELEMENTS ? 1 : 0);
    }
}
