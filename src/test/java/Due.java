import java.lang.reflect.Method;
import java.util.Arrays;
import java.util.Comparator;

/** Holds answers against those that are due, and ends a test with exit code 1 if one was wrong. */
final class Due {
    static final int LEAST_INT = Integer.MIN_VALUE, GREATEST_INT = Integer.MAX_VALUE;
    static final int NULL = -11, INDEX = -12, CAST = -13, STORE = -14, SIZE = -15;
    private static int checked = 0;
    private static int wrong = 0;
    private static String running = "";

    private Due() {
    }

    static void is(String call, long got, long want) {
        checked++;
        if (got != want) {
            wrong++;
            System.out.println(running + call + " answered " + got + ", due is " + want);
        }
    }

    /** A new object whose lines 0 on have these dots. */
    static InkSwaths picture(int... dots) {
        InkSwaths x = new InkSwaths();
        for (int line = 0; line < dots.length; line++) {
            x.line(line, dots[line]);
        }
        return x;
    }

    /** A new object with a head: nozzles, space, feed, passes, start. */
    static InkSwaths head(int nozzles, int space, int feed, int passes, int start) {
        InkSwaths x = new InkSwaths();
        Twins.tellHead(x, nozzles, space, feed, passes, start);
        return x;
    }

    /** All lines have the same dots. */
    static void fill(InkSwaths x, int dots) {
        for (int line = 0; line < 16; line++) {
            x.line(line, dots);
        }
    }

    /** Numbers that are not from low to high: the nearest on both sides, and the farthest. */
    static int[] outside(int low, int high) {
        return new int[] {low - 1, high + 1, LEAST_INT, GREATEST_INT};
    }

    /**
     * Runs every method of a test that is named by a promise, so that none can be left out of main, and
     * looks that each promise from the first to the last has one.
     */
    static void each(Class<?> test, int first, int last) throws ReflectiveOperationException {
        int[] methodsOf = new int[last + 1];
        Method[] methods = test.getDeclaredMethods();
        Arrays.sort(methods, Comparator.comparing(Method::getName));
        for (Method method : methods) {
            if (method.getName().matches("promise\\d+\\D.*")) {
                method.setAccessible(true);
                running = method.getName() + ": ";
                method.invoke(null);
                methodsOf[Integer.parseInt(method.getName().replaceAll("promise(\\d+).*", "$1"))]++;
            }
        }
        running = "";
        for (int promise = first; promise <= last; promise++) {
            is("promise " + promise + " has a test", methodsOf[promise] > 0 ? 1 : 0, 1);
        }
        end();
    }

    static void end() {
        System.out.println(checked + " answers looked at, " + wrong + " wrong");
        if (wrong != 0) {
            System.exit(1);
        }
    }
}
