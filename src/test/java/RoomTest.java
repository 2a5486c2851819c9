import java.lang.reflect.Array;
import java.lang.reflect.Field;
import java.lang.reflect.Modifier;
import java.util.Collections;
import java.util.IdentityHashMap;
import java.util.Set;

/**
 * How much room an object takes: all calls of one run live in one room. LanguageTest says that no method makes
 * anything, so what a new object has is all there ever is of it.
 */
public final class RoomTest {
    private static final int OBJECTS_MOST = 100;
    private static final int CELLS_MOST = 5000;

    private final Set<Object> objects = Collections.newSetFromMap(new IdentityHashMap<>());
    private int cells = 0;

    public static void main(String[] args) throws IllegalAccessException {
        PeriodTables x = new PeriodTables();
        RoomTest fresh = new RoomTest();
        fresh.count(x);
        Due.is("objects and arrays: " + fresh.objects.size(), true, fresh.objects.size() <= OBJECTS_MOST);
        Due.is("fields and elements: " + fresh.cells, true, fresh.cells <= CELLS_MOST);
        use(x);
        RoomTest used = new RoomTest();
        used.count(x);
        Due.is("objects and arrays behind 512 calls", fresh.objects.size(), used.objects.size());
        Due.is("fields and elements behind 512 calls", fresh.cells, used.cells);
        Due.finish("RoomTest");
    }

    private static void use(PeriodTables x) {
        for (int i = 0; i < 64; i++) {
            x.years(i, 40);
            x.adds(i % 2, i % 10, i, i, i + 1);
            x.keep(i % 2);
            x.heard(0, i % 10);
            x.sign(0x77307731);
            x.work();
            x.sign(0x6B2B3128);
            x.where(0);
        }
    }

    private void count(Object object) throws IllegalAccessException {
        if (object == null || !objects.add(object)) {
            return;
        }
        if (object.getClass().isArray()) {
            cells += Array.getLength(object);
            boolean ofObjects = object instanceof Object[];
            for (int i = 0; ofObjects && i < Array.getLength(object); i++) {
                count(Array.get(object, i));
            }
            return;
        }
        for (Field field : object.getClass().getDeclaredFields()) {
            if (!Modifier.isStatic(field.getModifiers())) {
                cells++;
                field.setAccessible(true);
                if (!field.getType().isPrimitive()) {
                    count(field.get(object));
                }
            }
        }
    }
}
