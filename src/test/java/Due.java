/** Holds answers against those that are due, and ends a test with exit code 1 if one was wrong. */
final class Due {
    static final int LEAST_INT = Integer.MIN_VALUE;
    static final int NULL = -11, INDEX = -12, CAST = -13, STORE = -14, SIZE = -15;
    private static int checked = 0;
    private static int wrong = 0;

    private Due() {
    }

    static void is(String call, long got, long want) {
        checked++;
        if (got != want) {
            wrong++;
            System.out.println(call + " answered " + got + ", due is " + want);
        }
    }

    /** A new object whose lines 0 on have these dots. */
    static InkSwaths picture(int... dots) {
        InkSwaths x = new InkSwaths();
        for (int line = 0; line < dots.length; line++) {
            x.line(line, dots[line]);
        }
        return x;
    }

    /** A new object with a head: nozzles, space, feed, passes, start. */
    static InkSwaths head(int nozzles, int space, int feed, int passes, int start) {
        InkSwaths x = new InkSwaths();
        x.set(0, nozzles);
        x.set(1, space);
        x.set(2, feed);
        x.set(3, passes);
        x.set(4, start);
        return x;
    }

    static void end() {
        System.out.println(checked + " answers looked at, " + wrong + " wrong");
        if (wrong != 0) {
            System.exit(1);
        }
    }
}
