import java.lang.reflect.Array;
import java.lang.reflect.Field;
import java.lang.reflect.Modifier;
import java.util.ArrayDeque;
import java.util.Collections;
import java.util.Deque;
import java.util.IdentityHashMap;
import java.util.Set;

/** The room in which all calls of a run live: what an object of the class holds, and that its calls hold no more. */
public final class RoomTest {
    private static final int CALLS = 512;
    private static final int MOST_OBJECTS = 600000;
    private static final int MOST_ELEMENTS = 7300000;

    private RoomTest() {
    }

    public static void main(String[] args) throws IllegalAccessException {
        objectForEachCall();
        callsHoldNoMore();
        Expect.end();
    }

    // Also if each of the calls of a run were one on a new object, there would be room for all.
    private static void objectForEachCall() throws IllegalAccessException {
        Set<Object> held = heldBy(new DockTree());
        int elements = 0;
        for (Object one : held) {
            elements += one.getClass().isArray() ? Array.getLength(one) : fieldsOf(one);
        }
        Expect.due(held.size() + " objects fit", CALLS * held.size() <= MOST_OBJECTS ? 1 : 0, 1);
        Expect.due(elements + " elements fit", CALLS * elements <= MOST_ELEMENTS ? 1 : 0, 1);
    }

    private static void callsHoldNoMore() throws IllegalAccessException {
        DockTree x = new DockTree();
        // The command that was read last is a constant, which is held from the first command on.
        Expect.run(x, "save 0;");
        Set<Object> before = heldBy(x);
        for (int k = 0; k < 16; k++) {
            x.addPane(1 + k, 16 - k);
            x.dockAtEdge(k, k % 4);
        }
        for (int k = 0; k < 30; k++) {
            x.dock(k % 16, (k + 1) % 16, k % 4);
            x.save(k % 4);
            x.floatAt(k % 16, k, k, 10, 10);
            x.undo();
            x.bringBack(k % 4);
            x.cellsIf(k % 16, (k + 1) % 16, k % 5);
            x.bestSide(k % 16, (k + 1) % 16);
            x.tightIn(20 + k, 400);
            x.digest();
        }
        Expect.run(x, "dock 1 2 3;save 0;load 0;");
        Set<Object> behind = heldBy(x);
        behind.removeAll(before);
        behind.removeIf(one -> one instanceof Enum);
        Expect.due("objects that the calls left", behind.size(), 0);
    }

    private static Set<Object> heldBy(Object first) throws IllegalAccessException {
        Set<Object> held = Collections.newSetFromMap(new IdentityHashMap<>());
        Deque<Object> open = new ArrayDeque<>();
        open.add(first);
        while (!open.isEmpty()) {
            Object one = open.pop();
            if (!held.add(one)) {
                continue;
            }
            if (one instanceof Object[] row) {
                for (Object element : row) {
                    addTo(open, element);
                }
            } else if (!one.getClass().isArray() && !(one instanceof Enum)) {
                for (Field field : one.getClass().getDeclaredFields()) {
                    if (!Modifier.isStatic(field.getModifiers()) && !field.getType().isPrimitive()) {
                        field.setAccessible(true);
                        addTo(open, field.get(one));
                    }
                }
            }
        }
        return held;
    }

    private static void addTo(Deque<Object> open, Object one) {
        if (one != null) {
            open.add(one);
        }
    }

    private static int fieldsOf(Object one) {
        int fields = 0;
        for (Field field : one.getClass().getDeclaredFields()) {
            fields += Modifier.isStatic(field.getModifiers()) ? 0 : 1;
        }
        return fields;
    }
}
