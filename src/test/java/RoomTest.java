import java.lang.management.ManagementFactory;
import java.lang.reflect.Array;
import java.lang.reflect.Field;
import java.lang.reflect.Modifier;
import java.util.ArrayDeque;
import java.util.Collections;
import java.util.IdentityHashMap;
import java.util.Set;

/** A run's room: what an object holds from the start, and that its calls make nothing more. */
public final class RoomTest {
    // 512 new objects would still leave room in 600,000 objects and 7.3 million fields and elements.
    private static final int MOST_OBJECTS = 1100;
    private static final int MOST_ELEMENTS = 14000;
    // Of some 50 calls each: an object is used for at most 512 calls.
    private static final int ROUNDS = 9;

    private static int objects;
    private static long elements;

    public static void main(String[] args) throws IllegalAccessException {
        PolyRegisters x = new PolyRegisters();
        count(x);
        Check.due("objects of a new object, here " + objects, true, () -> objects <= MOST_OBJECTS);
        Check.due("fields and elements of a new object, here " + elements, true, () -> elements <= MOST_ELEMENTS);
        int before = objects;
        long elementsBefore = elements;
        for (int i = 0; i < ROUNDS; i++) {
            calls(x);
        }
        count(x);
        Check.due("objects later", before, () -> objects);
        Check.due("fields and elements later", elementsBefore, () -> elements);
        PolyRegisters y = new PolyRegisters();
        PolyRegisters z = new PolyRegisters();
        com.sun.management.ThreadMXBean meter = (com.sun.management.ThreadMXBean) ManagementFactory.getThreadMXBean();
        meter.getThreadAllocatedBytes(Thread.currentThread().getId());
        long made = meter.getThreadAllocatedBytes(Thread.currentThread().getId());
        for (int i = 0; i < ROUNDS; i++) {
            calls(y);
            calls(z);
        }
        long bytes = meter.getThreadAllocatedBytes(Thread.currentThread().getId()) - made;
        // The meter itself takes some; 18 times 50 calls with an object each would take 14,400 bytes and more.
        Check.due("bytes that 900 calls make, here " + bytes, true, () -> bytes < 4000);
        Check.end();
    }

    private static void calls(PolyRegisters x) {
        for (int i = 0; i <= 12; i++) {
            x.setTerm(3, i, 999_999_999_999_999_999L - i * i * 77_777_777_777L * (i % 3));
            x.setTerm(4, i, 999_999_999_999_999_999L - i * 99_999_999_999L * (i % 4));
        }
        x.gcd(5, 3, 4);
        x.simple(5, 3);
        x.sturmLength(3);
        x.realRoots(3);
        x.changes(3, 1, 7);
        x.rootsBetween(3, -999, 1, 999, 1);
        x.fractionRoots(3);
        x.closeIn(0, 1, 20);
        x.fractionRoot(2, 1);
        x.value(3, 999, 1000);
        x.content(3);
        x.divides(3, 4);
        x.agreements(3, 4);
        x.power(5, 2, 4);
        x.substitute(5, 0, 1);
        x.divide(4, 5, 1, 0);
        x.clearPoints();
        x.addPoint(1, 2);
        x.addPoint(-3, 4);
        x.interpolate(5);
        x.append(0x78_2b_31_30, 0, 0, 0, 0);
        x.read(5);
        x.write(3);
        x.errors();
        x.undo();
    }

    private static void count(Object from) throws IllegalAccessException {
        objects = 0;
        elements = 0;
        Set<Object> seen = Collections.newSetFromMap(new IdentityHashMap<>());
        ArrayDeque<Object> queue = new ArrayDeque<>();
        queue.add(from);
        seen.add(from);
        while (!queue.isEmpty()) {
            Object next = queue.poll();
            objects++;
            if (next.getClass().isArray()) {
                elements += Array.getLength(next);
                if (!next.getClass().getComponentType().isPrimitive()) {
                    for (Object part : (Object[]) next) {
                        enqueue(part, seen, queue);
                    }
                }
                continue;
            }
            for (Field field : next.getClass().getDeclaredFields()) {
                if (!Modifier.isStatic(field.getModifiers())) {
                    elements++;
                    field.setAccessible(true);
                    if (!field.getType().isPrimitive()) {
                        enqueue(field.get(next), seen, queue);
                    }
                }
            }
        }
    }

    private static void enqueue(Object part, Set<Object> seen, ArrayDeque<Object> queue) {
        if (part != null && seen.add(part)) {
            queue.add(part);
        }
    }
}
