import java.lang.management.ManagementFactory;
import java.lang.reflect.Array;
import java.lang.reflect.Field;
import java.lang.reflect.Modifier;
import java.util.LinkedHashMap;
import java.util.Map;

/** 'All memory is rows made once': what a new object holds is all that it ever holds, and an answer makes nothing. */
public final class MemoryTest {
    /** Far below the room of a run (600,000 objects, 7.3 million elements), of which a test may fill many objects. */
    private static final int MOST_OBJECTS = 50;
    private static final int MOST_ELEMENTS = 10_000;
    private static final int WARM_UPS = 200;

    public static void main(String[] args) throws IllegalAccessException {
        newObjectIsSmall();
        rowsStayTheSame();
        objectsShareNoRow();
        answersMakeNothing();
        Calls.end();
    }

    private static void newObjectIsSmall() throws IllegalAccessException {
        Map<String, Object> held = heldBy(new IncidentKinds());
        int elements = 0;
        for (Object each : held.values()) {
            elements += each.getClass().isArray() ? Array.getLength(each) : each.getClass().getDeclaredFields().length;
        }
        check(held.size() <= MOST_OBJECTS, "a new object holds " + held.size() + " objects and arrays");
        check(elements <= MOST_ELEMENTS, "a new object holds " + elements + " fields and elements");
    }

    private static void rowsStayTheSame() throws IllegalAccessException {
        IncidentKinds object = new IncidentKinds();
        Map<String, Object> before = heldBy(object);
        fill(object);
        Map<String, Object> after = heldBy(object);
        check(before.keySet().equals(after.keySet()), "other rows are held after calls: " + after.keySet());
        for (String path : before.keySet()) {
            check(before.get(path) == after.get(path), path + " was made anew by a call");
        }
    }

    private static void objectsShareNoRow() throws IllegalAccessException {
        Map<String, Object> one = heldBy(new IncidentKinds());
        Map<String, Object> other = heldBy(new IncidentKinds());
        for (String path : one.keySet()) {
            check(one.get(path) != other.get(path), path + " is shared by two objects");
        }
    }

    /** The machine counts what this thread makes; after some runs that load and link all, a run must make nothing. */
    private static void answersMakeNothing() {
        com.sun.management.ThreadMXBean thread = (com.sun.management.ThreadMXBean) ManagementFactory.getThreadMXBean();
        int sum = 0;
        for (int i = 0; i < WARM_UPS; i++) {
            sum += fill(new IncidentKinds());
        }
        IncidentKinds object = new IncidentKinds();
        long start = thread.getCurrentThreadAllocatedBytes();
        long emptySpan = thread.getCurrentThreadAllocatedBytes() - start;
        start = thread.getCurrentThreadAllocatedBytes();
        int answers = fill(object);
        long span = thread.getCurrentThreadAllocatedBytes() - start;
        check(span == emptySpan, "calls that are not refused made " + (span - emptySpan) + " bytes");
        check(sum == answers * WARM_UPS, "the same calls gave other answers");
    }

    /** Every method, in 487 calls that are all taken and make much of what there can be: the sum of the answers. */
    private static int fill(IncidentKinds x) {
        int sum = 0;
        for (int i = 0; i < 40; i++) {
            sum += x.kind(i - 1);
            x.close(i, 5_000 + i);
        }
        for (int i = 0; i < 100; i++) {
            x.says(i % 40, i % 4, i, i % 5);
            x.need(i % 40, i % 16, i, i % 3, i % 21);
        }
        for (int i = 0; i < 39; i++) {
            x.area(i, i % 10, i + 1);
            x.upgrade(i, i % 32, i + 1);
        }
        for (int i = 0; i < 20; i++) {
            int incident = x.open(i, i % 10, i);
            sum += incident + x.send(incident, i % 16, 100) + x.found(incident, (i + 1) % 32, 7);
            sum += x.missing(incident, i % 16, 50) + x.incident(incident, 2);
            x.unit(i, 1 << i % 7);
        }
        x.parent(39, 0);
        sum += x.has(38, 0, 99) + x.has(38, 4, 9_999) + x.has(38, 5, 0) + x.has(38, 25, 99);
        return sum + x.in(0, 0) + x.uncovered(99, 3) + x.coded(3, 99) + x.count(1);
    }

    /** All objects and arrays that an object holds, each by the fields that lead to it. */
    private static Map<String, Object> heldBy(IncidentKinds object) throws IllegalAccessException {
        Map<String, Object> held = new LinkedHashMap<>();
        collect("the object", object, held);
        return held;
    }

    private static void collect(String path, Object at, Map<String, Object> held) throws IllegalAccessException {
        held.put(path, at);
        if (at instanceof Object[] several) {
            for (int i = 0; i < several.length; i++) {
                if (several[i] != null) {
                    collect(path + "[" + i + "]", several[i], held);
                }
            }
        }
        if (!at.getClass().getName().startsWith(IncidentKinds.class.getName())) {
            return;
        }
        for (Field field : at.getClass().getDeclaredFields()) {
            field.setAccessible(true);
            boolean refers = !Modifier.isStatic(field.getModifiers()) && !field.getType().isPrimitive();
            if (refers && field.get(at) != null) {
                collect(path + "." + field.getName(), field.get(at), held);
            }
        }
    }

    private static void check(boolean holds, String otherwise) {
        if (!holds) {
            Calls.fail("all memory is rows made once: " + otherwise);
        }
    }
}
