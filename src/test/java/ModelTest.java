import java.util.Random;

/** Long runs of calls by lot, right ones and wrong ones, each answer held against the model's. */
public final class ModelTest {
    private static final int RUNS = 240, CALLS = 250;
    private static final int[] ODD = {Integer.MIN_VALUE, -100, -2, -1, 16, 61, 256, 1000, Integer.MAX_VALUE};
    private static final int[] LOW = {1, 1, 1, 1, -20, 1, 1, 0, 0};
    private static final int[] HIGH = {8, 5, 12, 12, 0, 8, 6, 3, 3};

    private final Random lots;
    private final InkSwaths x = new InkSwaths();
    private final Model m = new Model();
    private final StringBuilder told = new StringBuilder();

    private ModelTest(long seed) {
        lots = new Random(seed);
    }

    public static void main(String[] args) {
        for (int run = 0; run < RUNS; run++) {
            ModelTest test = new ModelTest(run);
            test.begin();
            for (int call = 0; call < CALLS; call++) {
                test.callByLot(run);
            }
        }
        Due.end();
    }

    /** Mostly from low to high, a little outside now and then. */
    private int any(int low, int high) {
        switch (lots.nextInt(30)) {
            case 0:
                return ODD[lots.nextInt(ODD.length)];
            case 1:
                return low - 1;
            case 2:
                return high + 1;
            default:
                return low + lots.nextInt(high - low + 1);
        }
    }

    private void begin() {
        int lines = lots.nextInt(17);
        boolean thin = lots.nextBoolean();
        for (int line = 0; line < lines; line++) {
            int dots = lots.nextInt(256) & (thin ? lots.nextInt(256) : 255);
            same("line", x.line(line, dots), m.line(line, dots), line, dots);
        }
        for (int what = 0; what < 9; what++) {
            if (lots.nextBoolean()) {
                int v = LOW[what] + lots.nextInt(HIGH[what] - LOW[what] + 1);
                same("set", x.set(what, v), m.set(what, v), what, v);
            }
        }
        int events = lots.nextInt(9);
        for (int i = 0; i < events; i++) {
            int kind = lots.nextInt(3) / 2;
            int pass = lots.nextInt(lots.nextBoolean() ? 3 : 12);
            int nozzle = lots.nextInt(lots.nextBoolean() ? 3 : 8);
            same("event", x.event(kind, pass, nozzle), m.event(kind, pass, nozzle), kind, pass, nozzle);
        }
    }

    private void same(String call, long got, long want, int... args) {
        told.append(call).append(java.util.Arrays.toString(args)).append(' ');
        if (got != want) {
            Due.is(told.toString(), got, want);
        } else {
            Due.is(call, got, want);
        }
    }

    private void callByLot(int run) {
        int lot = lots.nextInt(1000);
        if (lot < 4 && run % 4 == 0) {
            same("digest", x.digest(), m.digest());
        } else if (lot < 200) {
            change();
        } else if (lot < 600) {
            askOfPrint();
        } else if (lot < 700) {
            askOfPlans();
        } else {
            useSheets();
        }
    }

    private void change() {
        int a = any(0, 15);
        int b = any(0, 11);
        int c = any(0, 7);
        switch (lots.nextInt(6)) {
            case 0:
                b = any(0, 255);
                same("line", x.line(a, b), m.line(a, b), a, b);
                break;
            case 1:
                a = any(0, 8);
                b = a >= 0 && a <= 8 ? any(LOW[a], HIGH[a]) : 1;
                same("set", x.set(a, b), m.set(a, b), a, b);
                break;
            case 2:
                a = any(0, 1);
                same("event", x.event(a, b, c), m.event(a, b, c), a, b, c);
                break;
            case 3:
                same("back", x.back(), m.back());
                break;
            case 4:
                b = any(0, lots.nextInt(9));
                same("seen", x.seen(a, b), m.seen(a, b), a, b);
                break;
            default:
                if (lots.nextInt(3) == 0) {
                    same("forget", x.forget(), m.forget());
                }
                break;
        }
    }

    private void askOfPrint() {
        int a = any(0, 15);
        int b = any(0, 7);
        int c = any(0, 1);
        switch (lots.nextInt(12)) {
            case 0:
                same("hits", x.hits(a), m.hits(a), a);
                break;
            case 1:
                b = any(0, 11);
                same("hit", x.hit(a, b, c), m.hit(a, b, c), a, b, c);
                break;
            case 2:
            case 3:
                same("by", x.by(a, b, c), m.by(a, b, c), a, b, c);
                break;
            case 4:
                same("missed", x.missed(a), m.missed(a), a);
                break;
            case 5:
                same("done", x.done(a), m.done(a), a);
                break;
            case 6:
                a = any(0, 11);
                c = any(0, 2);
                same("pass", x.pass(a, b, c), m.pass(a, b, c), a, b, c);
                break;
            case 7:
                a = any(0, 3);
                same("sum", x.sum(a), m.sum(a), a);
                break;
            case 8:
                same("least", x.least(), m.least());
                break;
            case 9:
                same("drops", x.drops(b), m.drops(b), b);
                break;
            case 10:
                a = any(0, 2);
                same("even", x.even(a), m.even(a), a);
                break;
            default:
                same("open", x.open(), m.open());
                break;
        }
    }

    private void askOfPlans() {
        int a = any(0, 2);
        int b = any(0, 1);
        switch (lots.nextInt(7)) {
            case 0:
                same("better", x.better(a, b), m.better(a, b), a, b);
                break;
            case 1:
                a = any(-1, 1);
                same("spare", x.spare(a), m.spare(a), a);
                break;
            case 2:
                same("never", x.never(), m.never());
                break;
            case 3:
                same("was", x.was(b), m.was(b), b);
                break;
            case 4:
                same("ask", x.ask(), m.ask());
                break;
            case 5:
                a = any(0, 16);
                if (lots.nextInt(3) == 0) {
                    same("chance", x.chance(a, b), m.chance(a, b), a, b);
                }
                break;
            default:
                int seed = lots.nextInt();
                a = any(0, 16);
                same("tests", x.tests(seed, a, b), m.tests(seed, a, b), seed, a, b);
                break;
        }
    }

    private void useSheets() {
        int s = any(0, 3);
        int t = any(0, 3);
        int form = any(0, lots.nextInt(3));
        int i = any(0, 20);
        int j = any(0, 20);
        switch (lots.nextInt(12)) {
            case 0:
                int n = any(0, lots.nextBoolean() ? 20 : 60);
                same("sheet", x.sheet(s, form, n), m.sheet(s, form, n), s, form, n);
                break;
            case 1:
                if (lots.nextInt(4) == 0) {
                    same("lose", x.lose(s), m.lose(s), s);
                }
                break;
            case 2:
            case 3:
            case 4:
                int v = lots.nextInt(3) == 0 ? lots.nextInt() : lots.nextInt(256);
                same("put", x.put(s, form, i, v), m.put(s, form, i, v), s, form, i, v);
                break;
            case 5:
            case 6:
                same("get", x.get(s, form, i), m.get(s, form, i), s, form, i);
                break;
            case 7:
            case 8:
                int many = any(0, 10);
                same("copy", x.copy(s, i, t, j, many), m.copy(s, i, t, j, many), s, i, t, j, many);
                break;
            case 9:
                same("write", x.write(s), m.write(s), s);
                break;
            case 10:
                same("read", x.read(s), m.read(s), s);
                break;
            default:
                int what = any(0, 8);
                same("count", x.count(what), m.count(what), what);
                break;
        }
    }
}
