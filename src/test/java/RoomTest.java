import java.lang.reflect.Array;
import java.lang.reflect.Field;
import java.lang.reflect.Modifier;
import java.util.Collections;
import java.util.IdentityHashMap;
import java.util.Map;
import java.util.Set;
import java.util.function.Consumer;

/** The room that objects take: some 600,000 objects and arrays and 7.3 million fields and elements are all that a run has. */
public final class RoomTest {
    private static final Check check = new Check("RoomTest");
    private static final int OBJECTS = 600_000;
    private static final int ELEMENTS = 7_300_000;
    // A run whose every call makes an object has no more of them.
    private static final int MADE = 1000;

    public static void main(String[] args) throws IllegalAccessException {
        String first = room(new SharedSyntax());
        for (Map.Entry<String, Consumer<SharedSyntax>> state : States.all().entrySet()) {
            SharedSyntax x = new SharedSyntax();
            state.getValue().accept(x);
            check.due("room: " + state.getKey(), room(x), first);
        }
        check.due("room: longest chain", room(Check.of("a" + "=".repeat(59))), first);
        check.due("room: most nodes", room(Check.of("(".repeat(60))), first);
        roomForManyObjects();
        check.end();
    }

    private static void roomForManyObjects() throws IllegalAccessException {
        Set<Object> seen = Collections.newSetFromMap(new IdentityHashMap<>());
        long elements = weigh(new SharedSyntax(), seen);
        check.due("objects of " + MADE, (long) MADE * seen.size() <= OBJECTS, true);
        check.due("fields and elements of " + MADE, MADE * elements <= ELEMENTS, true);
    }

    private static String room(SharedSyntax x) throws IllegalAccessException {
        Set<Object> seen = Collections.newSetFromMap(new IdentityHashMap<>());
        long elements = weigh(x, seen);
        return seen.size() + " objects and arrays, " + elements + " fields and elements";
    }

    private static long weigh(Object object, Set<Object> seen) throws IllegalAccessException {
        if (object == null || !seen.add(object)) {
            return 0;
        }
        long many = 0;
        if (object.getClass().isArray()) {
            int length = Array.getLength(object);
            for (int i = 0; object instanceof Object[] && i < length; i++) {
                many += weigh(Array.get(object, i), seen);
            }
            return many + length;
        }
        for (Field field : object.getClass().getDeclaredFields()) {
            if (!Modifier.isStatic(field.getModifiers())) {
                field.setAccessible(true);
                many += 1 + (field.getType().isPrimitive() ? 0 : weigh(field.get(object), seen));
            }
        }
        return many;
    }
}
