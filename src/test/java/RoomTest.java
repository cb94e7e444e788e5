import java.lang.reflect.Array;
import java.lang.reflect.Field;
import java.lang.reflect.Modifier;
import java.util.ArrayDeque;
import java.util.Collections;
import java.util.IdentityHashMap;
import java.util.Set;

/** All calls of one run live in one room: what an object holds is small, and no call makes it more. */
public final class RoomTest {
    private static final Due DUE = new Due("RoomTest");
    private static final int OBJECTS = 600_000;
    private static final int ELEMENTS = 7_300_000;
    /** A run of nothing but new objects. */
    private static final int MADE = 512;

    private long objects;
    private long elements;

    public static void main(String[] args) throws IllegalAccessException {
        GateSayings x = new GateSayings();
        RoomTest ahead = new RoomTest();
        ahead.walk(x);
        System.out.println("RoomTest: " + ahead.objects + " objects, " + ahead.elements + " fields and elements");
        DUE.is("objects are few enough", ahead.objects * MADE < OBJECTS ? 1 : 0, 1);
        DUE.is("elements are few enough", ahead.elements * MADE < ELEMENTS ? 1 : 0, 1);
        for (int round = 0; round < 10; round++) {
            callAll(x, round % 4, (round + 1) % 4);
        }
        RoomTest behind = new RoomTest();
        behind.walk(x);
        DUE.is("objects behind all calls", behind.objects, ahead.objects);
        DUE.is("elements behind all calls", behind.elements, ahead.elements);
        DUE.end();
    }

    private static void callAll(GateSayings x, int one, int other) {
        x.write('p');
        x.fault();
        x.lay();
        x.ask(one, one);
        x.talk(one, other);
        x.listen(one, other);
        x.undo();
        x.opens(one);
        x.best(-1);
        x.middle(-1);
        x.lessons(one, other, 0);
        x.apart(0);
        x.crosses(one, one, other);
        x.seen(one, other, 1);
        x.kinds(other);
        x.ears(other, 0);
        x.heard(one, other);
        x.from();
        x.nearest(0);
        x.likely(one, other, 5, 0);
        x.year(77, 60, 2);
        x.keep();
        x.back();
        x.keep();
        x.forget();
        x.wipe();
    }

    private void walk(Object root) throws IllegalAccessException {
        Set<Object> met = Collections.newSetFromMap(new IdentityHashMap<>());
        ArrayDeque<Object> open = new ArrayDeque<>();
        open.add(root);
        while (!open.isEmpty()) {
            Object one = open.remove();
            if (met.add(one)) {
                objects++;
                if (one.getClass().isArray()) {
                    walkArray(one, open);
                } else {
                    walkFields(one, open);
                }
            }
        }
    }

    private void walkArray(Object array, ArrayDeque<Object> open) {
        elements += Array.getLength(array);
        if (array instanceof Object[]) {
            for (Object part : (Object[]) array) {
                open.add(part);
            }
        }
    }

    private void walkFields(Object one, ArrayDeque<Object> open) throws IllegalAccessException {
        for (Field field : one.getClass().getDeclaredFields()) {
            if (!Modifier.isStatic(field.getModifiers())) {
                elements++;
                field.setAccessible(true);
                Object part = field.get(one);
                if (!field.getType().isPrimitive() && part != null) {
                    open.add(part);
                }
            }
        }
    }
}
