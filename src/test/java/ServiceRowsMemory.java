import java.lang.reflect.Array;
import java.lang.reflect.Field;
import java.lang.reflect.Modifier;
import java.util.Collections;
import java.util.IdentityHashMap;
import java.util.List;
import java.util.Set;

/** "All memory is rows made once": what an object is made of stays the same for all its calls. */
public final class ServiceRowsMemory {
    /** A room of 600,000 objects and 7.3 million elements has place for a thousand of these. */
    private static final int MOST_OBJECTS = 600;
    private static final int MOST_ELEMENTS = 7300;

    private static int wrong = 0;

    private static void need(boolean holds, String what) {
        if (!holds) {
            wrong++;
            System.out.println("not as due: " + what);
        }
    }

    /** All objects and arrays that can be reached from an object, itself too, and their size. */
    private static final class Reach {
        final Set<Object> parts = Collections.newSetFromMap(new IdentityHashMap<>());
        int elements = 0;

        Reach(Object root) throws IllegalAccessException {
            take(root);
        }

        private void take(Object part) throws IllegalAccessException {
            if (part == null || !parts.add(part)) {
                return;
            }
            if (part.getClass().isArray()) {
                elements += Array.getLength(part);
                if (part instanceof Object[] row) {
                    for (Object element : row) {
                        take(element);
                    }
                }
                return;
            }
            for (Field f : part.getClass().getDeclaredFields()) {
                if (!Modifier.isStatic(f.getModifiers())) {
                    elements++;
                    f.setAccessible(true);
                    take(f.getType().isPrimitive() ? null : f.get(part));
                }
            }
        }
    }

    private static void stays(String scene, List<Call> calls) throws IllegalAccessException {
        ServiceRows x = new ServiceRows();
        Reach before = new Reach(x);
        calls.forEach(call -> call.on(x));
        Scenes.calls("0..9: due(#)", "0..4: count(#)", "spare(0)", "read(0, 999999, 999999)",
                "due(0)", "due(299)", "due(300)", "oil(0, 7)", "oilPer(0, 0)", "read(0, 0, 0)",
                "left(0, 0, 0)", "test(0, 0, 0, 0)", "done(1)", "defectAt(0, 0)", "day(-1)",
                "vehicle(0, true)", "order(0)").forEach(call -> call.on(x));
        Reach after = new Reach(x);
        need(after.parts.equals(before.parts), scene + ": the rows are those made at first");
        need(after.elements == before.elements, scene + ": the rows are as long as at first");
    }

    public static void main(String[] args) throws IllegalAccessException {
        Reach one = new Reach(new ServiceRows());
        need(one.parts.size() <= MOST_OBJECTS, one.parts.size() + " objects and arrays");
        need(one.elements <= MOST_ELEMENTS, one.elements + " fields and elements");
        Reach another = new Reach(new ServiceRows());
        need(Collections.disjoint(one.parts, another.parts), "two objects share nothing");
        stays("empty", List.of());
        stays("middle", Scenes.middle());
        stays("full", Scenes.full());
        System.out.println(one.parts.size() + " objects and arrays with " + one.elements
                + " fields and elements, " + wrong + " things wrong");
        if (wrong != 0) {
            System.exit(1);
        }
    }
}
