import java.lang.management.ManagementFactory;
import java.lang.reflect.Array;
import java.lang.reflect.Field;
import java.lang.reflect.Modifier;
import java.util.ArrayDeque;
import java.util.Collections;
import java.util.Deque;
import java.util.IdentityHashMap;
import java.util.Set;

/** All calls of a run live in one room: what the constructor makes is small, and no call behind it makes an object. */
public final class RoomTest {
    private static final Check check = new Check();
    /** A thousand objects of the class fill half of the room: 600,000 objects, 7.3 million fields and elements. */
    private static final int MOST_PARTS = 300;
    private static final int MOST_ELEMENTS = 3650;

    public static void main(String[] args) throws IllegalAccessException {
        callsMakeNothing();
        anObjectIsSmall();
        check.end();
    }

    private static void callsMakeNothing() {
        com.sun.management.ThreadMXBean threads = (com.sun.management.ThreadMXBean) ManagementFactory.getThreadMXBean();
        run(new CoalTurns());
        CoalTurns x = new CoalTurns();
        long before = threads.getCurrentThreadAllocatedBytes();
        int sum = run(x);
        long made = threads.getCurrentThreadAllocatedBytes() - before;
        check.isTrue("the calls answered", sum > 0);
        check.isTrue("a call makes no object (" + made + " bytes)", made < 1000);
    }

    private static int run(CoalTurns x) {
        int sum = 0;
        for (int s = 0; s < 20; s++) sum += x.ship(s % 4, s % 2, 200 + s, 10 + s, s % 6, 1 + s);
        for (int b = 0; b < 10; b++) sum += x.buyer(b % 6, b % 2, 100 * b, 10 + 3 * b);
        for (int d = 0; d < 30; d++) {
            sum += x.feed(0x7475726E2061736BL, 8) + x.feed(0x3B73656C6C2037L, 7) + x.order(d);
            sum += x.day(d % 3, d % 5, d % 7 == 0 ? 1 : 0);
            sum += x.turn(0) + x.clear(3) + x.held(d % 20) + x.tried(-1, 30, 1, 1, 0) + x.tried(0, 30, 1, 1, 1);
            sum += x.ask(d % 20, 5 + d) + x.want(d % 10, 50 * d, 60) + x.store(d % 6, d) + x.burn(d % 6, d % 5, d);
            sum += x.about(3, d % 13) + x.bargain(0, 3) + x.weighed(1, 1, 24, 1) + x.lasts(0, 1) + x.count(6) + x.factor(1);
            sum += x.ward(1, d % 4) + x.force(d) + x.many(0, d) + x.measure(20, 28) + x.goOn(3) + x.wreck(d % 20, 0);
        }
        return sum;
    }

    private static void anObjectIsSmall() throws IllegalAccessException {
        Set<Object> seen = Collections.newSetFromMap(new IdentityHashMap<>());
        Deque<Object> open = new ArrayDeque<>();
        int elements = 0;
        meet(new CoalTurns(), seen, open);
        while (!open.isEmpty()) {
            Object part = open.remove();
            elements += part.getClass().isArray() ? elementsOf(part, seen, open) : fieldsOf(part, seen, open);
        }
        check.isTrue("its parts are found", seen.size() > 10);
        check.isTrue("an object has few parts: " + seen.size(), seen.size() <= MOST_PARTS);
        check.isTrue("an object has few elements: " + elements, elements <= MOST_ELEMENTS);
        System.out.println(seen.size() + " parts, " + elements + " fields and elements");
    }

    private static void meet(Object part, Set<Object> seen, Deque<Object> open) {
        if (part != null && seen.add(part)) open.add(part);
    }

    private static int elementsOf(Object array, Set<Object> seen, Deque<Object> open) {
        int length = Array.getLength(array);
        if (array.getClass().getComponentType().isPrimitive()) return length;
        for (int i = 0; i < length; i++) meet(Array.get(array, i), seen, open);
        return length;
    }

    private static int fieldsOf(Object part, Set<Object> seen, Deque<Object> open) throws IllegalAccessException {
        int fields = 0;
        for (Field f : part.getClass().getDeclaredFields()) {
            if (Modifier.isStatic(f.getModifiers())) continue;
            fields++;
            f.setAccessible(true);
            if (!f.getType().isPrimitive()) meet(f.get(part), seen, open);
        }
        return fields;
    }
}
