import java.lang.reflect.InvocationTargetException;
import java.lang.reflect.Method;
import java.lang.reflect.Modifier;
import java.util.Arrays;
import java.util.Comparator;
import java.util.NoSuchElementException;
import java.util.Random;

/** Whatever the arguments are: no call throws, but entry() and row() NoSuchElementException. */
public final class AnyArgumentsTest {
    private static final int RUNS = 300;
    private static final int CALLS = 512;
    private static final int[] EDGES = {Integer.MIN_VALUE, Integer.MIN_VALUE + 1, -100, -99, -10, -2, -1, 0, 1, 2, 3,
        9, 10, 11, 12, 19, 20, 21, 40, 41, 80, 99, 100, 101, Integer.MAX_VALUE - 1, Integer.MAX_VALUE};

    public static void main(String[] args) throws IllegalAccessException {
        Method[] methods = Arrays.stream(PeriodTables.class.getDeclaredMethods())
                .filter(m -> Modifier.isPublic(m.getModifiers())).toArray(Method[]::new);
        Arrays.sort(methods, Comparator.comparing(Method::getName));
        for (int seed = 0; seed < RUNS; seed++) {
            run(methods, new Random(seed));
        }
        Due.finish("AnyArgumentsTest");
    }

    private static void run(Method[] methods, Random random) throws IllegalAccessException {
        PeriodTables x = new PeriodTables();
        for (int i = 0; i < CALLS; i++) {
            Method method = methods[random.nextInt(methods.length)];
            Object[] arguments = new Object[method.getParameterCount()];
            for (int k = 0; k < arguments.length; k++) {
                arguments[k] = argument(random);
            }
            String call = method.getName() + Arrays.toString(arguments);
            Due.is(call + " throws what it may not", false, throwsOther(x, method, arguments));
        }
    }

    private static int argument(Random random) {
        int kind = random.nextInt(10);
        return kind < 6 ? random.nextInt(2) * random.nextInt(100) : kind < 8 ? random.nextInt(3)
                : kind < 9 ? EDGES[random.nextInt(EDGES.length)] : random.nextInt();
    }

    private static boolean throwsOther(PeriodTables x, Method method, Object[] arguments)
            throws IllegalAccessException {
        try {
            method.invoke(x, arguments);
            return false;
        } catch (InvocationTargetException e) {
            boolean mayThrow = method.getName().equals("entry") || method.getName().equals("row");
            return !mayThrow || e.getCause().getClass() != NoSuchElementException.class;
        }
    }
}
