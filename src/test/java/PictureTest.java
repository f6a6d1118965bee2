/** Promises 1 to 6: the picture, the head, events. */
public final class PictureTest {
    private static final int[] FIRST = {4, 3, 4, 8, -9, 8, 3, 0, 0};
    private static final int[] LOW = {1, 1, 1, 1, -20, 1, 1, 0, 0};
    private static final int[] HIGH = {8, 5, 12, 12, 0, 8, 6, 3, 3};

    public static void main(String[] args) {
        promise1();
        promise2();
        promise3();
        promise4();
        promise4Alive();
        promise5();
        promise6();
        promise6Wrong();
        Due.end();
    }

    private static void promise1() {
        InkSwaths x = new InkSwaths();
        Due.is("NONE", InkSwaths.NONE, -1);
        Due.is("BAD", InkSwaths.BAD, -2);
        Due.is("NOT", InkSwaths.NOT, -3);
        Due.is("FULL", InkSwaths.FULL, -4);
        int[] counts = {0, 16, 0, 0, 0, 8, 0, 0, 0};
        for (int what = 0; what <= 8; what++) {
            Due.is("count(" + what + ") of a new one", x.count(what), counts[what]);
        }
        for (int line = 0; line < 16; line++) {
            Due.is("line of a new one", x.line(line, 0), 0);
        }
        for (int what = 0; what < 9; what++) {
            Due.is("set of a new one", x.set(what, FIRST[what]), FIRST[what]);
        }
        Due.is("back of a new one", x.back(), -3);
        Due.is("forget of a new one", x.forget(), 0);
        for (int s = 0; s < 4; s++) {
            Due.is("lose of a new one", x.lose(s), Due.NULL);
        }
        Due.is("another is new, too", new InkSwaths().count(8), 0);
    }

    private static void promise2() {
        InkSwaths x = new InkSwaths();
        Due.is("line(0, 255)", x.line(0, 255), 0);
        Due.is("line(15, 170)", x.line(15, 170), 0);
        int[][] wrong = {{-1, 0}, {16, 0}, {0, -1}, {0, 256}, {15, 256}, {-1, 256},
            {Integer.MIN_VALUE, 0}, {Integer.MAX_VALUE, 0}, {0, Integer.MIN_VALUE}, {0, Integer.MAX_VALUE}};
        for (int[] w : wrong) {
            Due.is("line(" + w[0] + ", " + w[1] + ")", x.line(w[0], w[1]), -2);
        }
        Due.is("dots", x.count(0), 12);
        Due.is("line(0, 1) behind wrong ones", x.line(0, 1), 255);
        Due.is("line(0, 0)", x.line(0, 0), 1);
        Due.is("line(15, 0)", x.line(15, 0), 170);
        Due.is("line(1, 0)", x.line(1, 0), 0);
        Due.is("no dots", x.count(0), 0);
    }

    private static void promise3() {
        InkSwaths x = new InkSwaths();
        for (int what = 0; what < 9; what++) {
            Due.is("set low " + what, x.set(what, LOW[what]), FIRST[what]);
            Due.is("set below " + what, x.set(what, LOW[what] - 1), Due.LEAST_INT);
            Due.is("set high " + what, x.set(what, HIGH[what]), LOW[what]);
            Due.is("set above " + what, x.set(what, HIGH[what] + 1), Due.LEAST_INT);
            Due.is("set least int " + what, x.set(what, Integer.MIN_VALUE), Due.LEAST_INT);
            Due.is("set greatest int " + what, x.set(what, Integer.MAX_VALUE), Due.LEAST_INT);
        }
        for (int what = 0; what < 9; what++) {
            Due.is("set anew " + what, x.set(what, FIRST[what]), HIGH[what]);
        }
        for (int what : new int[] {-1, 9, Integer.MIN_VALUE, Integer.MAX_VALUE}) {
            Due.is("set(" + what + ", 1)", x.set(what, 1), Due.LEAST_INT);
        }
        Due.is("all as at first", x.digest(), new InkSwaths().digest());
    }

    private static void promise4() {
        InkSwaths x = new InkSwaths();
        int[][] wrong = {{-1, 0, 0}, {2, 0, 0}, {0, -1, 0}, {0, 12, 0}, {0, 0, -1}, {0, 0, 8},
            {Integer.MAX_VALUE, 0, 0}, {0, Integer.MIN_VALUE, 0}, {1, 0, Integer.MAX_VALUE}};
        for (int[] w : wrong) {
            Due.is("a wrong event", x.event(w[0], w[1], w[2]), -2);
        }
        Due.is("none told", x.count(2), 0);
        for (int i = 1; i <= 8; i++) {
            Due.is("event " + i, x.event(i % 2, 11, 7), i);
        }
        Due.is("a ninth", x.event(0, 0, 0), -4);
        for (int[] w : wrong) {
            Due.is("a wrong ninth", x.event(w[0], w[1], w[2]), -2);
        }
        Due.is("eight told", x.count(2), 8);
        Due.is("the ninth is not", x.pass(0, 0, 2), 1);
    }

    /** The greatest pass that is not greater tells; of like ones what was told last. */
    private static void promise4Alive() {
        InkSwaths x = new InkSwaths();
        x.event(0, 2, 1);
        x.event(1, 5, 1);
        x.event(0, 4, 1);
        alive(x, 1, 0b11100011);
        alive(x, 0, 0b11111111);
        x.event(1, 2, 1);
        alive(x, 1, 0b11101111);
        x.event(0, 5, 1);
        alive(x, 1, 0b00001111);
        x.event(0, 0, 3);
        alive(x, 3, 0);
        alive(x, 2, 0b11111111);
        x.event(0, 11, 2);
        alive(x, 2, 0b11111111);
        x.set(3, 12);
        Due.is("dead in pass 11", x.pass(11, 2, 2), 0);
        Due.is("alive in pass 10", x.pass(10, 2, 2), 1);
        x.event(0, 0, 7);
        x.set(0, 8);
        Due.is("dead before there was such a nozzle", x.pass(0, 7, 2), 0);
    }

    private static void alive(InkSwaths x, int nozzle, int passes) {
        for (int pass = 0; pass < 8; pass++) {
            Due.is("alive " + nozzle + " in " + pass, x.pass(pass, nozzle, 2), passes >> pass & 1);
        }
    }

    private static void promise5() {
        InkSwaths x = new InkSwaths();
        Due.is("back of none", x.back(), -3);
        x.event(0, 0, 0);
        x.event(1, 0, 0);
        x.event(0, 3, 1);
        Due.is("back", x.back(), 2);
        Due.is("alive again", x.pass(3, 1, 2), 1);
        Due.is("cleaned", x.pass(0, 0, 2), 1);
        Due.is("back", x.back(), 1);
        Due.is("dead again", x.pass(0, 0, 2), 0);
        Due.is("event behind back", x.event(0, 1, 2), 2);
        Due.is("back", x.back(), 1);
        Due.is("back", x.back(), 0);
        Due.is("alive", x.pass(0, 0, 2), 1);
        Due.is("back of none", x.back(), -3);
        Due.is("no events", x.count(2), 0);
        Due.is("NOT is no finding", x.count(8), 0);
    }

    private static void promise6() {
        InkSwaths x = new InkSwaths();
        x.sheet(0, 2, 20);
        for (int i = 0; i < 20; i++) {
            x.put(0, 2, i, 100 + i);
        }
        Due.is("read 16 of 20", x.read(0), 16);
        for (int line = 0; line < 16; line++) {
            Due.is("line read", x.line(line, 7), 100 + line);
        }
        x.sheet(1, 1, 3);
        x.put(1, 1, 0, 255);
        x.put(1, 1, 1, 0);
        x.put(1, 1, 2, 9);
        Due.is("read 3 of 3", x.read(1), 3);
        Due.is("what is read is printed", x.pass(0, 3, 0), 8);
        Due.is("what was there is not", x.pass(1, 2, 0), 0);
        Due.is("line 0", x.line(0, 0), 255);
        Due.is("line 1", x.line(1, 0), 0);
        Due.is("line 2", x.line(2, 0), 9);
        Due.is("line 3 stays", x.line(3, 0), 7);
        x.sheet(2, 0, 0);
        Due.is("read of no items", x.read(2), 0);
        Due.is("the sheet stays", x.get(1, 1, 2), 9);
    }

    private static void promise6Wrong() {
        InkSwaths x = new InkSwaths();
        for (int s : new int[] {-1, 4, Integer.MIN_VALUE, Integer.MAX_VALUE}) {
            Due.is("read(" + s + ")", x.read(s), -2);
        }
        Due.is("BAD is no finding", x.count(8), 0);
        Due.is("read of a lost one", x.read(3), Due.NULL);
        Due.is("NULL", x.count(8), 1);
        x.sheet(0, 2, 4);
        x.put(0, 2, 0, 3);
        x.put(0, 2, 1, 256);
        x.put(0, 2, 2, 5);
        x.line(1, 1);
        x.line(2, 2);
        Due.is("read up to 256", x.read(0), 1);
        Due.is("line 0 is read", x.line(0, 0), 3);
        Due.is("line 1 stays", x.line(1, 0), 1);
        Due.is("line 2 stays", x.line(2, 0), 2);
        x.put(0, 2, 0, -1);
        Due.is("read up to -1", x.read(0), 0);
        x.sheet(1, 0, 2);
        x.put(1, 0, 0, 127);
        x.put(1, 0, 1, 128);
        Due.is("a byte of 128 is -128", x.read(1), 1);
        Due.is("line 0 is 127", x.line(0, 0), 127);
    }
}
