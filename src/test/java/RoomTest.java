import com.sun.management.ThreadMXBean;
import java.lang.management.ManagementFactory;
import java.lang.reflect.Array;
import java.lang.reflect.Field;
import java.lang.reflect.Modifier;
import java.util.ArrayDeque;
import java.util.Collections;
import java.util.Deque;
import java.util.IdentityHashMap;
import java.util.Set;

/**
 * All calls of one run share one room: a desk is small from the first, holds no more after its dearest
 * calls, and these make nothing that would fill the room, even if it is let go at once.
 */
public final class RoomTest {
    private static final int MOST_OBJECTS = 1000;
    private static final int MOST_ELEMENTS = 20000;
    private static final int TRIES = 10;

    private static final Check CHECK = new Check();

    public static void main(String[] args) throws IllegalAccessException {
        aDeskIsSmallAndDoesNotGrow();
        callsMakeNothing();
        CHECK.finish();
    }

    private static void aDeskIsSmallAndDoesNotGrow() throws IllegalAccessException {
        FountainDesk desk = new FountainDesk();
        int[] before = objectsAndElements(desk);
        CHECK.same("a new desk has few objects", before[0] > 0 && before[0] < MOST_OBJECTS, true);
        CHECK.same("a new desk has few elements", before[1] > 0 && before[1] < MOST_ELEMENTS, true);
        dearCalls(desk);
        int[] after = objectsAndElements(desk);
        CHECK.same("objects of a desk that was used", after[0], before[0]);
        CHECK.same("elements of a desk that was used", after[1], before[1]);
    }

    private static void callsMakeNothing() {
        ThreadMXBean thread = (ThreadMXBean) ManagementFactory.getThreadMXBean();
        long least = Long.MAX_VALUE;
        // The least of several tries: what the machine itself makes now and then is not the desk's.
        for (int i = 0; i < TRIES; i++) {
            FountainDesk desk = new FountainDesk();
            long before = thread.getCurrentThreadAllocatedBytes();
            dearCalls(desk);
            least = Math.min(least, thread.getCurrentThreadAllocatedBytes() - before);
        }
        CHECK.same("bytes that the calls make", least, 0);
    }

    /** Every call of the face, none of which throws, at its largest. */
    private static void dearCalls(FountainDesk desk) {
        for (int i = 0; i < 40; i++) {
            desk.feed(i, -i, 7 * i, 0x01020304 * i, ~i);
        }
        desk.end(768);
        desk.block(48, 16);
        for (int k = 1; k <= 48; k++) {
            desk.turn(k);
            desk.row(k, 65535, true);
        }
        desk.open(48, 16);
        desk.take(65535);
        desk.takeAll(60000, 997, 100);
        desk.takeAll(0, 1, 100);
        desk.byteAt(65535, 15);
        desk.follows(65535);
        desk.known(65535, 15);
        desk.count(6);
        desk.rank();
        desk.product(255, 255);
        desk.open(1, 16);
        desk.feed(1, 2, 3, 4, 5);
        desk.end(16);
        desk.give(0);
    }

    /** All that can be reached from the desk: how many objects and arrays, how many fields and elements. */
    private static int[] objectsAndElements(FountainDesk desk) throws IllegalAccessException {
        Set<Object> seen = Collections.newSetFromMap(new IdentityHashMap<>());
        Deque<Object> open = new ArrayDeque<>();
        seen.add(desk);
        open.add(desk);
        int elements = 0;
        while (!open.isEmpty()) {
            Object one = open.remove();
            Object[] parts = one.getClass().isArray() ? elementsOf(one) : fieldsOf(one);
            elements += one.getClass().isArray() ? Array.getLength(one) : parts.length;
            for (Object part : parts) {
                if (part != null && !isNumber(part) && seen.add(part)) {
                    open.add(part);
                }
            }
        }
        return new int[] {seen.size(), elements};
    }

    private static boolean isNumber(Object part) {
        return part instanceof Number || part instanceof Boolean || part instanceof Character;
    }

    private static Object[] elementsOf(Object array) {
        return array instanceof Object[] ? (Object[]) array : new Object[0];
    }

    private static Object[] fieldsOf(Object one) throws IllegalAccessException {
        Field[] all = one.getClass().getDeclaredFields();
        Object[] held = new Object[all.length];
        for (int i = 0; i < all.length; i++) {
            if (!Modifier.isStatic(all[i].getModifiers())) {
                all[i].setAccessible(true);
                held[i] = all[i].get(one);
            }
        }
        return held;
    }
}
