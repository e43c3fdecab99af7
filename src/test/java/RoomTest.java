import java.lang.management.ManagementFactory;
import java.lang.reflect.Array;
import java.lang.reflect.Field;
import java.lang.reflect.Modifier;
import java.util.ArrayDeque;
import java.util.Collections;
import java.util.Deque;
import java.util.IdentityHashMap;
import java.util.Set;

/** All calls of a run share one room: an object makes each of its rows once, however it is used. */
public final class RoomTest {
    private static final int MOST_OBJECTS = 1500;
    private static final int MOST_ELEMENTS = 100_000;
    /** What the measuring itself may take; an object made in each call would be more. */
    private static final long MOST_BYTES = 5000;
    private static final String SOUP = "<a b=c><p d>t<style>u</style><b>&lt;<a></q>" + Check.times(401, "\"")
        + "<ul><li><li e e f g h i>v</ul><!--";

    private final SoupReader x = new SoupReader();
    private int calls;
    private int objects;
    private int elements;

    public static void main(String[] args) throws IllegalAccessException {
        RoomTest first = new RoomTest();
        first.makeAllRows();
        first.useThem();
        RoomTest second = new RoomTest();
        second.makeAllRows();
        long before = bytesMade();
        second.useThem();
        long made = bytesMade() - before;
        Check.due("more than " + MOST_BYTES + " bytes made where all rows are there", made > MOST_BYTES ? 1 : 0, 0);
        Check.due("no more than the calls of an object", second.calls > 512 ? 1 : 0, 0);
        second.countAll();
        Check.due("objects and arrays: " + second.objects, second.objects > MOST_OBJECTS ? 1 : 0, 0);
        Check.due("fields and elements: " + second.elements, second.elements > MOST_ELEMENTS ? 1 : 0, 0);
        Check.close();
    }

    private static long bytesMade() {
        com.sun.management.ThreadMXBean threads = (com.sun.management.ThreadMXBean) ManagementFactory.getThreadMXBean();
        return threads.getThreadAllocatedBytes(Thread.currentThread().getId());
    }

    private void give(String text) {
        for (int i = 0; i < text.length(); i += 20) {
            x.feed(four(text, i), four(text, i + 4), four(text, i + 8), four(text, i + 12), four(text, i + 16));
            calls++;
        }
        x.end(text.length());
        calls++;
    }

    private static int four(String text, int from) {
        int four = 0;
        for (int i = from; i < from + 4; i++) {
            four = four << 8 | (i < text.length() ? text.charAt(i) : 0);
        }
        return four;
    }

    /** Every NODE has had four ATTRIBUTES and been a TEXT. */
    private void makeAllRows() {
        String[] pages = {Check.times(119, "<br a b c d>"), Check.times(60, "<br>t"), Check.times(60, "t<br>")};
        for (String page : pages) {
            give(page);
            Check.due("a full tree", x.page(), 120);
            calls++;
        }
    }

    private void useThem() {
        give(SOUP);
        x.page();
        give("i");
        x.add(0);
        give("text");
        x.text(1);
        give("key=value");
        x.set(0);
        give("key");
        x.attribute(0);
        give("b");
        x.find(SoupReader.NONE);
        x.remove(1);
        give("no NAME");
        x.find(0);
        calls += 8;
        while (calls < 505) {
            x.serialise(0);
            x.name(0);
            x.node(0, 2);
            x.kid(0, 0);
            x.fault(0, 0);
            x.faults();
            x.out(0);
            calls += 7;
        }
    }

    /** Goes through all that the object holds. */
    private void countAll() throws IllegalAccessException {
        Set<Object> seen = Collections.newSetFromMap(new IdentityHashMap<>());
        Deque<Object> next = new ArrayDeque<>();
        next.add(x);
        while (!next.isEmpty()) {
            Object one = next.poll();
            if (!seen.add(one)) {
                continue;
            }
            objects++;
            if (one.getClass().isArray()) {
                countArray(one, next);
            } else {
                countFields(one, next);
            }
        }
    }

    private void countArray(Object array, Deque<Object> next) {
        elements += Array.getLength(array);
        if (array instanceof Object[]) {
            for (Object one : (Object[]) array) {
                follow(one, next);
            }
        }
    }

    private void countFields(Object one, Deque<Object> next) throws IllegalAccessException {
        for (Field field : one.getClass().getDeclaredFields()) {
            if (!Modifier.isStatic(field.getModifiers())) {
                elements++;
                field.setAccessible(true);
                if (!field.getType().isPrimitive()) {
                    follow(field.get(one), next);
                }
            }
        }
    }

    private static void follow(Object one, Deque<Object> next) {
        if (one != null) {
            next.add(one);
        }
    }
}
