import java.lang.reflect.InvocationTargetException;
import java.lang.reflect.Method;
import java.lang.reflect.Modifier;
import java.util.Arrays;
import java.util.Comparator;
import java.util.Random;

/**
 * Any arguments in any state: nothing but the exceptions of the face is thrown, and none by the machine itself. What
 * calls behind the 512th answer is free, but they have to keep to this too.
 */
final class WildCallTest {
    private static final int RUNS = 20;
    private static final int CALLS = 40000;
    private static final int[] EDGES = {
        Integer.MIN_VALUE, Integer.MIN_VALUE + 1, -100000, -1, 0, 1, 4, 5, 6, 7, 9, 10, 11, 12, 23, 24, 29, 30, 59, 60,
        61, 99, 100, 120, 121, 200, 9999, 10000, 99998, 99999, 100000, Integer.MAX_VALUE - 1, Integer.MAX_VALUE};

    private final Due due;
    private final Random random;
    private final StationRows rows = new StationRows();

    private WildCallTest(Due due, int seed) {
        this.due = due;
        random = new Random(seed);
    }

    public static void main(String[] args) throws IllegalAccessException {
        Due due = new Due();
        Method[] face = Arrays.stream(StationRows.class.getDeclaredMethods())
            .filter(m -> Modifier.isPublic(m.getModifiers()))
            .sorted(Comparator.comparing(Method::getName))
            .toArray(Method[]::new);
        for (int seed = 0; seed < RUNS; seed++) {
            new WildCallTest(due, seed).run(face);
        }
        due.end();
    }

    private void run(Method[] face) throws IllegalAccessException {
        for (int i = 0; i < CALLS; i++) {
            Method method = face[random.nextInt(face.length)];
            Object[] arguments = Arrays.stream(method.getParameterTypes()).map(this::anyOf).toArray();
            try {
                method.invoke(rows, arguments);
            } catch (InvocationTargetException e) {
                look(method, arguments, e.getCause());
            }
        }
    }

    private Object anyOf(Class<?> type) {
        if (type == boolean.class) {
            return random.nextBoolean();
        }
        switch (random.nextInt(8)) {
            case 0: return random.nextInt();
            case 1: return EDGES[random.nextInt(EDGES.length)];
            case 2: return random.nextInt(100000);
            case 3: return random.nextInt(60);
            default: return random.nextInt(6);
        }
    }

    /** The class throws through its require methods alone; what the machine throws comes from somewhere else. */
    private void look(Method method, Object[] arguments, Throwable thrown) {
        boolean declared = Arrays.asList(method.getExceptionTypes()).contains(thrown.getClass());
        StackTraceElement[] trace = thrown.getStackTrace();
        // A method that the machine has compiled may throw without a trace, and then only what the machine makes.
        boolean own = trace.length > 0 && trace[0].getMethodName().startsWith("require");
        if (!declared || !own) {
            due.tell(method.getName() + Arrays.toString(arguments) + " threw " + thrown);
        }
    }
}
