import java.lang.reflect.Constructor;
import java.lang.reflect.Field;
import java.lang.reflect.Method;
import java.util.LinkedHashMap;
import java.util.Map;
import java.util.Random;

/**
 * The table in which PARTS stand by what is gone and who is caught, looked at from inside: "those alike together" must hold
 * where states share a spot of the table too, which few rails show.
 */
public final class SpreadTest {
    /** As many states as a night with a bait can have: each thief was caught ahead, comes or does not, and one is caught or not. */
    private static final int MOST_STATES = 2 * 729;
    private static final int BITS = 17;
    private static final Due due = new Due();

    private final Object spread;
    private final Class<?> kind;

    private SpreadTest() throws ReflectiveOperationException {
        kind = Class.forName("LockRail$Spread");
        Constructor<?> make = kind.getDeclaredConstructor();
        make.setAccessible(true);
        spread = make.newInstance();
    }

    private Object field(String name) throws ReflectiveOperationException {
        Field f = kind.getDeclaredField(name);
        f.setAccessible(true);
        return f.get(spread);
    }

    private void call(String name, Class<?>[] types, Object... args) throws ReflectiveOperationException {
        Method m = kind.getDeclaredMethod(name, types);
        m.setAccessible(true);
        m.invoke(spread, args);
    }

    private void put(int state, long parts) throws ReflectiveOperationException {
        call("put", new Class<?>[] {int.class, long.class}, state, parts);
    }

    private void wipe() throws ReflectiveOperationException {
        call("wipe", new Class<?>[0]);
    }

    private void holds(String what, Map<Integer, Long> want) throws ReflectiveOperationException {
        int size = (Integer) field("size");
        int[] states = (int[]) field("states");
        long[] parts = (long[]) field("parts");
        due.is(what + ": how many states", want.size(), size);
        int wrong = 0;
        for (int i = 0; i < size; i++) if (want.getOrDefault(states[i], 0L) != parts[i]) wrong++;
        due.is(what + ": states with other parts", 0, wrong);
    }

    public static void main(String[] args) throws ReflectiveOperationException {
        SpreadTest x = new SpreadTest();
        Random random = new Random(7);
        x.holds("new", Map.of());
        for (int round = 0; round < 30; round++) {
            int distinct = round % 3 == 0 ? MOST_STATES : 1 + random.nextInt(MOST_STATES);
            Map<Integer, Long> want = new LinkedHashMap<>();
            while (want.size() < distinct) {
                int state = random.nextInt(1 << BITS);
                long parts = 1 + random.nextInt(1_000_000);
                want.merge(state, parts, Long::sum);
                x.put(state, parts);
                x.put(state, 0);
            }
            for (int state : want.keySet().toArray(new Integer[0])) {
                want.merge(state, 5L, Long::sum);
                x.put(state, 5);
            }
            x.holds("round " + round, want);
            x.wipe();
            x.holds("wiped", Map.of());
        }
        due.close();
    }
}
