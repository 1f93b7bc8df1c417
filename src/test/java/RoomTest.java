import java.lang.management.ManagementFactory;
import java.lang.reflect.Array;
import java.lang.reflect.Field;
import java.lang.reflect.Modifier;
import java.util.ArrayDeque;
import java.util.Collections;
import java.util.Deque;
import java.util.IdentityHashMap;
import java.util.Set;

/**
 * All calls of a run live in one room, of 600000 objects and 7.3 million elements. An object takes a small part of it.
 * What calls make is told in bytes alone: more of them than such a room has were too many, whatever they are.
 */
public final class RoomTest {
    private static final Checks CHECKS = new Checks("RoomTest");
    private static final int OBJECTS = 600000;
    private static final int ELEMENTS = 7300000;
    /** Sixteen of an object's own, and eight of the widest element. */
    private static final long BYTES = 16L * OBJECTS + 8L * ELEMENTS;
    private static final int CALLS = 512;
    /** It goes round some three million slots before it is done. */
    private static final String ENDLESS = "w99,b1,b2,b3,b4,b5,b6,b7,b8,b9,b10,b11,b12,b13,b14,b15";

    public static void main(String[] args) throws IllegalAccessException {
        sizeOfAnObject();
        everyKindOfCall();
        theDearestCall();
        CHECKS.end();
    }

    private static void sizeOfAnObject() throws IllegalAccessException {
        Set<Object> seen = Collections.newSetFromMap(new IdentityHashMap<>());
        Deque<Object> open = new ArrayDeque<>();
        open.push(new TurnSlots());
        long elements = 0;
        while (!open.isEmpty()) {
            Object object = open.pop();
            if (seen.add(object)) {
                elements += elementsOf(object, open);
            }
        }
        CHECKS.due("objects of one: " + seen.size(), seen.size() <= OBJECTS / 100 ? 1 : 0, 1);
        CHECKS.due("elements of one: " + elements, elements <= ELEMENTS / 100 ? 1 : 0, 1);
    }

    private static long elementsOf(Object object, Deque<Object> open) throws IllegalAccessException {
        if (object.getClass().isArray()) {
            int length = Array.getLength(object);
            for (int i = 0; i < length && !object.getClass().getComponentType().isPrimitive(); i++) {
                if (Array.get(object, i) != null) {
                    open.push(Array.get(object, i));
                }
            }
            return length;
        }
        long fields = 0;
        if (object.getClass().getName().startsWith("java.")) {
            return fields;
        }
        for (Field field : object.getClass().getDeclaredFields()) {
            if (!Modifier.isStatic(field.getModifiers())) {
                fields++;
                field.setAccessible(true);
                if (!field.getType().isPrimitive() && field.get(object) != null) {
                    open.push(field.get(object));
                }
            }
        }
        return fields;
    }

    private static long allocated() {
        return ((com.sun.management.ThreadMXBean) ManagementFactory.getThreadMXBean()).getCurrentThreadAllocatedBytes();
    }

    private static void everyKindOfCall() {
        everyCall(new TurnSlots());
        TurnSlots x = new TurnSlots();
        long before = allocated();
        int calls = 0;
        for (int i = 0; i < 9; i++) {
            calls += everyCall(x);
        }
        long made = allocated() - before;
        CHECKS.due("calls", calls, 9 * 54);
        CHECKS.due("bytes that calls of every kind make: " + made, made < BYTES ? 1 : 0, 1);
    }

    private static void theDearestCall() {
        TurnSlots x = Checks.machine("7:" + ENDLESS, "0:l0,l0", "1:l0", "2:t", "3:t,s2");
        int answers = 0;
        long before = allocated();
        for (int i = 0; i < CALLS - 30; i++) {
            answers += x.slotsLeft();
        }
        long made = allocated() - before;
        CHECKS.due("answers", answers, TurnSlots.NONE * (CALLS - 30));
        CHECKS.due("bytes that the dearest calls make: " + made, made < BYTES ? 1 : 0, 1);
    }

    /** Texts come as numbers, so that the test itself makes nothing: "1:t,s0,", "w3", "0:b2,s1,", "t,w9". */
    private static int everyCall(TurnSlots x) {
        int calls = 0;
        calls += x.put(0x313A742C73302CL) == x.count(8) ? 2 : 100;
        calls += x.put(0x7733) + x.fault() + x.read() > -100 ? 3 : 100;
        calls += x.put(0x303A62322C73312CL) + x.put(0x742C7739) + x.fault() + x.read() > -100 ? 4 : 100;
        calls += x.add(3, TurnSlots.SEND, 0) + x.prefer(3, 4) + x.post(1, 9) + x.post(0, 8) + x.step(1) > -100 ? 5 : 100;
        for (int what = 0; what < 14; what++) {
            calls += x.of(1, what) + x.count(what) > -100 ? 2 : 100;
        }
        calls += x.slotsLeft() + x.leftIf(1, 0, 9) + x.sumBehind(1, 200) + x.run() + x.release(0) > -100 ? 5 : 100;
        calls += x.undo() + x.save(0) + x.restore(0) + x.command(1, 0, 0) + x.inbox(1, 0) + x.holder(0) + x.wipe() > -100 ? 7 : 100;
        return calls;
    }
}
