import java.lang.management.ManagementFactory;
import java.lang.reflect.Array;
import java.lang.reflect.Field;
import java.lang.reflect.Modifier;
import java.util.IdentityHashMap;
import java.util.Map;

/** The room of one run: what a desk holds, and that no call but the constructor makes an object. */
public final class RoomTest {
    private static final Due TEST = new Due("RoomTest");
    private static final int DESKS = 512;
    private static final int MOST_OBJECTS = 600_000;
    private static final int MOST_ELEMENTS = 7_300_000;

    private final Map<Object, Boolean> seen = new IdentityHashMap<>();
    private int elements;

    public static void main(String[] args) throws IllegalAccessException {
        held();
        calls();
        manyCalls();
        TEST.end();
    }

    private static void held() throws IllegalAccessException {
        TEST.about("what a desk holds");
        RoomTest room = new RoomTest();
        room.count(new RdsDesk());
        System.out.println("a desk: " + room.seen.size() + " objects, " + room.elements + " fields and elements");
        TEST.due("objects of 512 desks fit", room.seen.size() * DESKS < MOST_OBJECTS, true);
        TEST.due("elements of 512 desks fit", room.elements * DESKS < MOST_ELEMENTS, true);
    }

    private void count(Object object) throws IllegalAccessException {
        if (object == null || seen.put(object, true) != null) {
            return;
        }
        if (object.getClass().isArray()) {
            elements += Array.getLength(object);
            for (int i = 0; object instanceof Object[] row && i < row.length; i++) {
                count(row[i]);
            }
            return;
        }
        for (Field field : object.getClass().getDeclaredFields()) {
            if (Modifier.isStatic(field.getModifiers())) {
                continue;
            }
            elements++;
            if (!field.getType().isPrimitive()) {
                field.setAccessible(true);
                count(field.get(object));
            }
        }
    }

    private static long made() {
        return ((com.sun.management.ThreadMXBean) ManagementFactory.getThreadMXBean()).getCurrentThreadAllocatedBytes();
    }

    /** Groups of every type and five bits, another PI now and then, wrong bits, and every question. */
    private static int work(RdsDesk desk) {
        int sum = 0;
        for (int i = 0; i < 1024; i++) {
            int type = i & 31;
            desk.feed(desk.block(i % 200 == 0 ? 8 : 7, 0) ^ (i % 7 == 0 ? 3 : 0), 26);
            desk.feed(desk.block(type << 11 | i * 7 & 2047, 1), 26);
            desk.feed(desk.block(i * 40503, (type & 1) == 1 ? 4 : 2), 26);
            desk.feed(desk.block(i * 30011, 3) ^ (i % 5 == 0 ? 0x1001 : 0), 26);
            sum += ask(desk, i % 16);
        }
        desk.set(3, 7);
        desk.forget();
        return sum;
    }

    private static int ask(RdsDesk desk, int i) {
        return desk.state(i) + desk.group(i) + desk.programme(i) + desk.reports(i) + desk.letter(i & 3, i)
                + desk.marks(i) + desk.frequency(i) + desk.time(i) + desk.oda(i, i & 3) + desk.tag(i)
                + desk.other(i & 7, i) + desk.otherLetter(i & 7, i);
    }

    private static void calls() {
        TEST.about("what calls make");
        int sum = work(new RdsDesk());
        RdsDesk desk = new RdsDesk();
        made();
        long before = made();
        sum += work(desk);
        long after = made();
        // Asking for the count may make a few bytes itself; 1024 groups that made one object each would make 16,000.
        TEST.due("bytes that calls made are few: " + (after - before) + ", sum " + sum, after - before < 2000, true);
    }

    /** Answers behind the 512th call are free, but no call may throw then either. */
    private static void manyCalls() {
        TEST.about("many calls");
        RdsDesk desk = new RdsDesk();
        for (int i = 0; i < 50; i++) {
            work(desk);
        }
        TEST.due("feed(1, 1)", desk.feed(1, 1), true);
    }
}
