import java.lang.reflect.InvocationTargetException;
import java.lang.reflect.Method;
import java.util.Arrays;
import java.util.Comparator;

/** Counts and prints the calls whose answer is not the one that is due. */
final class Due {
    interface Call {
        void run();
    }

    interface IntCall {
        void run(int value);
    }

    interface TimeCall {
        void run(int from, int to);
    }

    private static final int LAST_MINUTE = 99999;
    private static final int LEAST = Integer.MIN_VALUE;
    private static final int GREATEST = Integer.MAX_VALUE;
    private static final int[][] TIMES = {{0, 1}, {LAST_MINUTE - 1, LAST_MINUTE}, {0, LAST_MINUTE}, {500, 501}};
    private static final int[][] NO_TIMES = {
        {-1, 0}, {-1, 1}, {-1, LAST_MINUTE}, {LEAST, 1}, {LEAST, GREATEST}, {-2, -1},
        {0, LAST_MINUTE + 1}, {LAST_MINUTE - 1, LAST_MINUTE + 1}, {LAST_MINUTE, LAST_MINUTE + 1}, {0, GREATEST},
        {LAST_MINUTE + 1, LAST_MINUTE + 2}, {GREATEST - 1, GREATEST}, {GREATEST, LEAST},
        {0, 0}, {500, 500}, {LAST_MINUTE, LAST_MINUTE}, {LEAST, LEAST}, {GREATEST, GREATEST},
        {1, 0}, {501, 500}, {LAST_MINUTE, LAST_MINUTE - 1}, {LAST_MINUTE, 0}, {0, -1}, {0, LEAST}, {GREATEST, 0}};

    private int wrong;

    void same(String call, long got, long want) {
        if (got != want) {
            tell(call + " answered " + got + ", due is " + want);
        }
    }

    void same(String call, String got, String want) {
        if (!got.equals(want)) {
            tell(call + " answered " + got + ", due is " + want);
        }
    }

    /** An array index that the machine refuses would be a subclass, so the class has to be the very one. */
    void refused(Class<? extends RuntimeException> want, String call, Call run) {
        try {
            run.run();
        } catch (RuntimeException e) {
            if (e.getClass() != want) {
                tell(call + " threw " + e.getClass().getName() + ", due is " + want.getName());
            }
            return;
        }
        tell(call + " threw nothing, due is " + want.getName());
    }

    void unknown(String call, Call run) {
        refused(IllegalArgumentException.class, call, run);
    }

    void outside(String call, Call run) {
        refused(IndexOutOfBoundsException.class, call, run);
    }

    void wrongState(String call, Call run) {
        refused(IllegalStateException.class, call, run);
    }

    void noRoom(String call, Call run) {
        refused(UnsupportedOperationException.class, call, run);
    }

    void taken(String call, Call run) {
        try {
            run.run();
        } catch (RuntimeException e) {
            tell(call + " threw " + e.getClass().getName() + ", due is no exception");
        }
    }

    /** The last values that are taken, and the first ones that are refused, on either side; and the ends of int. */
    void range(String name, int least, int most, IntCall call) {
        edges(IndexOutOfBoundsException.class, name, least, most, call);
    }

    /** The same for numbers 0 .. count - 1. */
    void numbers(String name, int count, IntCall call) {
        edges(IllegalArgumentException.class, name, 0, count - 1, call);
    }

    private void edges(Class<? extends RuntimeException> want, String name, int least, int most, IntCall call) {
        for (int value : new int[] {LEAST, least - 1, most + 1, GREATEST}) {
            refused(want, name + " " + value, () -> call.run(value));
        }
        if (least <= most) {
            taken(name + " " + least, () -> call.run(least));
            taken(name + " " + most, () -> call.run(most));
        }
    }

    /** The shortest, the longest, the first and the last time; and those that lie outside, are empty or go back. */
    void times(String name, TimeCall call) {
        for (int[] time : TIMES) {
            taken(name + " " + Arrays.toString(time), () -> call.run(time[0], time[1]));
        }
        for (int[] time : NO_TIMES) {
            outside(name + " " + Arrays.toString(time), () -> call.run(time[0], time[1]));
        }
    }

    void tell(String text) {
        wrong++;
        System.out.println(text);
    }

    /** Runs each test that is marked with the document's words, so that none can be written and not run. */
    static void runAll(Class<?> tests) {
        Due all = new Due();
        Method[] methods = tests.getDeclaredMethods();
        Arrays.sort(methods, Comparator.comparing(Method::getName));
        int count = 0;
        for (Method method : methods) {
            if (method.isAnnotationPresent(Says.class)) {
                count++;
                all.runOne(method);
            }
        }
        all.same("tests found", count > 0 ? 1 : 0, 1);
        System.out.println(count + " boundaries");
        all.end();
    }

    private void runOne(Method method) {
        Due due = new Due();
        try {
            method.invoke(null, due);
        } catch (InvocationTargetException e) {
            due.tell("a call threw " + e.getCause());
        } catch (IllegalAccessException e) {
            due.tell("cannot be run");
        }
        if (due.wrong > 0) {
            Says says = method.getAnnotation(Says.class);
            System.out.println("  in " + method.getName() + " (" + says.in() + ": " + says.words() + ")");
            wrong += due.wrong;
        }
    }

    void end() {
        System.out.println(wrong == 0 ? "all answers are as due" : wrong + " answers are not as due");
        if (wrong != 0) {
            System.exit(1);
        }
    }
}
