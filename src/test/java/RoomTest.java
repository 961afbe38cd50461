import java.lang.reflect.Array;
import java.lang.reflect.Field;
import java.lang.reflect.Modifier;
import java.util.ArrayDeque;
import java.util.Collections;
import java.util.Deque;
import java.util.IdentityHashMap;
import java.util.Set;

/**
 * All calls of one run live in one room, which holds some 600,000 objects and arrays, and 7.3 million
 * fields and elements in all: a hundredth of it is enough for an object and its dearest calls.
 */
public final class RoomTest {
    private static final int OBJECTS = 600000 / 100, ELEMENTS = 7300000 / 100, CALLS = 512;

    private final Set<Object> met = Collections.newSetFromMap(new IdentityHashMap<>());
    private long elements;

    public static void main(String[] args) throws IllegalAccessException {
        Check check = new Check("RoomTest");
        RoomTest test = new RoomTest();
        UnlikeNeighbours x = new UnlikeNeighbours();
        test.meetAllOf(x);
        test.dueWithin(check, "a new object");
        int made = test.met.size();
        shed(x);
        test.meetAllOf(x);
        check.due("objects that are made by other calls than act()", test.met.size() - made, 0);
        // Only act() makes something: a thing for each call.
        for (int k = 0; k < CALLS; k++) {
            x.act(k % 4, 3, k);
            test.meetAllOf(x);
        }
        test.dueWithin(check, "a run of acts");
        check.due("each act() of a good makes its thing anew", test.met.size() > made ? 1 : 0, 1);
        check.end();
    }

    private static void shed(UnlikeNeighbours x) {
        for (int g = 0; g < 9; g++) {
            x.good(1 + g % 5, g % 3, g, 10);
        }
        Edge.told(x, "good if (1=1 or 1=2) and not 1=3 more 7; living free;");
        x.ways();
        x.cheapest();
        x.goat();
        x.gapFor();
        x.report(0, 1);
        x.often(60);
        x.prove();
        x.judge();
        Edge.sheet(x, 0, 0, 8, 7, 6);
        Edge.sheet(x, 3, 3, 8, 7, 6);
        for (int shelf = 0; shelf < 4; shelf++) {
            x.shelf(shelf, 0, shelf);
        }
        x.goats(0, 0, 3);
        x.keep();
        x.goes(0, 0, 3);
        x.again();
    }

    private void dueWithin(Check check, String what) {
        check.due("objects of " + what + ", " + met.size() + ", are few", met.size() <= OBJECTS ? 1 : 0, 1);
        check.due("elements of " + what + ", " + elements + ", are few", elements <= ELEMENTS ? 1 : 0, 1);
    }

    private void meetAllOf(Object first) throws IllegalAccessException {
        Deque<Object> open = new ArrayDeque<>();
        Set<Object> seen = Collections.newSetFromMap(new IdentityHashMap<>());
        open.push(first);
        while (!open.isEmpty()) {
            Object it = open.pop();
            if (seen.add(it)) {
                boolean isNew = met.add(it);
                if (it.getClass().isArray()) {
                    meetItems(it, isNew, open);
                } else {
                    meetFields(it, isNew, open);
                }
            }
        }
    }

    private void meetItems(Object row, boolean isNew, Deque<Object> open) {
        int count = Array.getLength(row);
        elements += isNew ? count : 0;
        for (int i = 0; i < count && !row.getClass().getComponentType().isPrimitive(); i++) {
            Object item = Array.get(row, i);
            if (item != null) {
                open.push(item);
            }
        }
    }

    private void meetFields(Object it, boolean isNew, Deque<Object> open) throws IllegalAccessException {
        for (Class<?> type = it.getClass(); type != Object.class; type = type.getSuperclass()) {
            for (Field field : type.getDeclaredFields()) {
                if (Modifier.isStatic(field.getModifiers())) {
                    continue;
                }
                elements += isNew ? 1 : 0;
                field.setAccessible(true);
                Object value = field.getType().isPrimitive() ? null : field.get(it);
                if (value != null) {
                    open.push(value);
                }
            }
        }
    }
}
