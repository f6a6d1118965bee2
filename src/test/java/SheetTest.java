import java.util.function.Consumer;

/** Promises 27 to 34: sheets, counts, the digest. */
public final class SheetTest {
    private static final int[] WRONG = {-1, 4, Integer.MIN_VALUE, Integer.MAX_VALUE};

    public static void main(String[] args) {
        promise27();
        promise28();
        promise29();
        promise29Bits();
        promise30();
        promise31();
        promise31Wrong();
        promise32();
        promise33();
        promise34();
        Due.end();
    }

    private static void promise27() {
        InkSwaths x = new InkSwaths();
        for (int s = 0; s < 4; s++) {
            for (int form = 0; form < 3; form++) {
                Due.is("sheet of 60", x.sheet(s, form, 60), 60);
                x.put(s, form, 59, 9);
                Due.is("sheet of 60 anew", x.sheet(s, form, 60), 60);
                Due.is("its items are 0", x.get(s, form, 59), 0);
                Due.is("sheet of 0", x.sheet(s, form, 0), 0);
                Due.is("it has no item", x.put(s, form, 0, 1), Due.INDEX);
            }
        }
        x.sheet(0, 1, 2);
        x.put(0, 1, 1, 5);
        int[][] wrong = {{-1, 0, 1}, {4, 0, 1}, {0, -1, 1}, {0, 3, 1}, {0, 0, 61}, {0, 0, Integer.MAX_VALUE},
            {4, 0, -1}, {0, 3, -1}, {Integer.MIN_VALUE, 0, 0}, {0, Integer.MAX_VALUE, 0}};
        for (int[] w : wrong) {
            Due.is("a wrong sheet", x.sheet(w[0], w[1], w[2]), -2);
        }
        Due.is("BAD is no finding", x.count(8), 2);
        Due.is("below 0", x.sheet(0, 1, -1), Due.SIZE);
        Due.is("SIZE", x.count(8), 5);
        Due.is("the least int", x.sheet(1, 2, Integer.MIN_VALUE), Due.SIZE);
        Due.is("refused ones stay", x.get(0, 1, 1), 5);
    }

    private static void promise28() {
        InkSwaths x = new InkSwaths();
        for (int s : WRONG) {
            Due.is("lose(" + s + ")", x.lose(s), -2);
        }
        Due.is("BAD is no finding", x.count(8), 0);
        Due.is("lost at first", x.lose(3), Due.NULL);
        Due.is("NULL", x.count(8), 1);
        x.sheet(3, 0, 17);
        x.sheet(2, 0, 0);
        Due.is("it had 17", x.lose(3), 17);
        Due.is("it is lost", x.lose(3), Due.NULL);
        Due.is("it had 0", x.lose(2), 0);
        Due.is("it is lost", x.lose(2), Due.NULL);
        Due.is("no item of a lost one", x.put(3, 0, 0, 1), Due.NULL);
        Due.is("made again", x.sheet(3, 1, 3), 3);
        Due.is("it has 3", x.lose(3), 3);
    }

    private static void promise29() {
        InkSwaths x = new InkSwaths();
        x.sheet(0, 1, 5);
        Due.is("put", x.put(0, 1, 0, 11), 1);
        Due.is("put", x.put(0, 1, 4, 44), 1);
        for (int s : WRONG) {
            Due.is("put to " + s, x.put(s, 1, 0, 1), -2);
        }
        for (int form : new int[] {-1, 3, Integer.MIN_VALUE, Integer.MAX_VALUE}) {
            Due.is("put as " + form, x.put(0, form, 0, 1), -2);
            Due.is("put as " + form + " to a lost one", x.put(1, form, 0, 1), -2);
        }
        Due.is("BAD is no finding", x.count(8), 0);
        Due.is("a lost one", x.put(1, 1, 99, 1), Due.NULL);
        Due.is("NULL", x.count(8), 1);
        Due.is("another form ahead of the index", x.put(0, 2, 99, 1), Due.CAST);
        Due.is("CAST", x.count(8), 3);
        for (int i : new int[] {-1, 5, 60, Integer.MIN_VALUE, Integer.MAX_VALUE}) {
            Due.is("put at " + i, x.put(0, 1, i, 1), Due.INDEX);
        }
        Due.is("INDEX", x.count(8), 2);
        Due.is("as it was put", x.get(0, 1, 0), 11);
        Due.is("not put", x.get(0, 1, 1), 0);
        Due.is("as it was put", x.get(0, 1, 4), 44);
        Due.is("what is right changes no finding", x.count(8), 2);
    }

    private static void promise29Bits() {
        InkSwaths x = new InkSwaths();
        int[] values = {0, 1, -1, 127, 128, 255, 256, -128, -129, 32767, 32768, 65535, 65536, -32768, -32769,
            0x12345678, Integer.MIN_VALUE, Integer.MAX_VALUE};
        for (int form = 0; form < 3; form++) {
            x.sheet(form, form, 1);
        }
        for (int v : values) {
            x.put(0, 0, 0, v);
            x.put(1, 1, 0, v);
            x.put(2, 2, 0, v);
            Due.is("byte of " + v, x.get(0, 0, 0), v << 24 >> 24);
            Due.is("short of " + v, x.get(1, 1, 0), v << 16 >> 16);
            Due.is("int of " + v, x.get(2, 2, 0), v);
        }
    }

    private static void promise30() {
        InkSwaths x = new InkSwaths();
        x.sheet(2, 0, 3);
        x.put(2, 0, 2, -7);
        Due.is("get", x.get(2, 0, 2), -7);
        Due.is("get of what was not put", x.get(2, 0, 1), 0);
        for (int s : WRONG) {
            Due.is("get of " + s, x.get(s, 0, 0), Due.LEAST_INT);
        }
        for (int form : new int[] {-1, 3, Integer.MIN_VALUE, Integer.MAX_VALUE}) {
            Due.is("get as " + form, x.get(2, form, 0), Due.LEAST_INT);
        }
        Due.is("BAD is no finding", x.count(8), 0);
        Due.is("get of a lost one", x.get(0, 0, 9), Due.LEAST_INT);
        Due.is("NULL", x.count(8), 1);
        Due.is("get as another form", x.get(2, 1, 9), Due.LEAST_INT);
        Due.is("CAST", x.count(8), 3);
        for (int i : new int[] {-1, 3, Integer.MIN_VALUE, Integer.MAX_VALUE}) {
            x.get(0, 0, 0);
            Due.is("get at " + i, x.get(2, 0, i), Due.LEAST_INT);
            Due.is("INDEX", x.count(8), 2);
        }
        Due.is("get once more", x.get(2, 0, 2), -7);
    }

    private static void promise31() {
        InkSwaths x = new InkSwaths();
        x.sheet(0, 2, 6);
        x.sheet(1, 2, 4);
        for (int i = 0; i < 6; i++) {
            x.put(0, 2, i, 10 + i);
        }
        Due.is("copy", x.copy(0, 2, 1, 1, 3), 1);
        items(x, 1, 0, 12, 13, 14);
        items(x, 0, 10, 11, 12, 13, 14, 15);
        Due.is("copy forth over itself", x.copy(0, 0, 0, 2, 4), 1);
        items(x, 0, 10, 11, 10, 11, 12, 13);
        Due.is("copy back over itself", x.copy(0, 1, 0, 0, 5), 1);
        items(x, 0, 11, 10, 11, 12, 13, 13);
        Due.is("copy all", x.copy(1, 0, 0, 2, 4), 1);
        items(x, 0, 11, 10, 0, 12, 13, 14);
        Due.is("copy none at the ends", x.copy(0, 6, 1, 4, 0), 1);
        items(x, 1, 0, 12, 13, 14);
        Due.is("no finding", x.count(8), 0);
    }

    private static void items(InkSwaths x, int s, int... due) {
        for (int i = 0; i < due.length; i++) {
            Due.is("item " + i + " of " + s, x.get(s, 2, i), due[i]);
        }
    }

    private static void promise31Wrong() {
        InkSwaths x = new InkSwaths();
        x.sheet(0, 2, 3);
        x.sheet(1, 1, 3);
        x.sheet(3, 2, 2);
        x.put(0, 2, 0, 8);
        for (int s : WRONG) {
            Due.is("copy from " + s, x.copy(s, 0, 0, 0, 1), -2);
            Due.is("copy to " + s, x.copy(0, 0, s, 0, 1), -2);
            Due.is("copy from a lost one to " + s, x.copy(2, 0, s, 0, 1), -2);
        }
        Due.is("BAD is no finding", x.count(8), 0);
        Due.is("copy from a lost one", x.copy(2, -1, 0, 0, 1), Due.NULL);
        Due.is("copy to a lost one", x.copy(0, -1, 2, 0, 1), Due.NULL);
        Due.is("NULL", x.count(8), 1);
        Due.is("unlike forms", x.copy(0, -1, 1, 0, 9), Due.STORE);
        Due.is("STORE", x.count(8), 4);
        Due.is("unlike forms of no items", x.copy(0, 0, 1, 0, 0), Due.STORE);
        int max = Integer.MAX_VALUE;
        int min = Integer.MIN_VALUE;
        int[][] wrong = {{-1, 0, 1}, {0, -1, 1}, {0, 0, -1}, {0, 0, 3}, {1, 0, 3}, {0, 2, 1}, {3, 0, 1}, {4, 0, 0},
            {0, 3, 0}, {max, 0, 1}, {0, max, 1}, {0, 0, max}, {max, max, max}, {min, 0, 0}, {0, min, 0}, {0, 0, min},
            {1, 1, max}, {-1, 0, 0}, {0, -1, 0}};
        for (int[] w : wrong) {
            x.lose(2);
            Due.is("copy from " + w[0] + " to " + w[1] + " of " + w[2], x.copy(0, w[0], 3, w[1], w[2]), Due.INDEX);
            Due.is("INDEX", x.count(8), 2);
        }
        items(x, 3, 0, 0);
        items(x, 0, 8, 0, 0);
    }

    private static void promise32() {
        InkSwaths x = new InkSwaths();
        for (int line = 0; line < 16; line++) {
            x.line(line, 255 - line);
        }
        for (int nozzle = 0; nozzle < 3; nozzle++) {
            x.event(0, 0, nozzle);
        }
        // Nozzle 3 prints lines 0, 4, 8, 12.
        x.sheet(0, 2, 20);
        x.put(0, 2, 16, 5);
        Due.is("write 16 of 20", x.write(0), 16);
        for (int line = 0; line < 16; line++) {
            Due.is("int of line " + line, x.get(0, 2, line), line % 4 == 0 ? 0 : 255 - line);
        }
        Due.is("item 16 stays", x.get(0, 2, 16), 5);
        x.set(5, 3);
        Due.is("write when full", x.write(0), 16);
        Due.is("int of line 0 when full", x.get(0, 2, 0), 248);
        x.set(5, 8);
        x.sheet(1, 0, 3);
        Due.is("write 3 of 3", x.write(1), 3);
        Due.is("byte of line 0", x.get(1, 0, 0), 0);
        Due.is("byte of line 1", x.get(1, 0, 1), -2);
        Due.is("byte of line 2", x.get(1, 0, 2), -3);
        x.sheet(2, 1, 16);
        Due.is("write 16 of 16", x.write(2), 16);
        Due.is("short of line 15", x.get(2, 1, 15), 240);
        x.sheet(3, 0, 0);
        Due.is("write none", x.write(3), 0);
        for (int s : WRONG) {
            Due.is("write(" + s + ")", x.write(s), -2);
        }
        Due.is("BAD is no finding", x.count(8), 0);
        x.lose(3);
        Due.is("write to a lost one", x.write(3), Due.NULL);
        Due.is("NULL", x.count(8), 1);
        Due.is("the picture stays", x.line(15, 0), 240);
    }

    private static void promise33() {
        InkSwaths x = Due.head(3, 2, 2, 3, -4);
        x.line(0, 255);
        x.line(1, 3);
        x.line(2, 1);
        x.event(0, 1, 1);
        x.set(5, 3);
        x.set(6, 1);
        x.seen(0, 0);
        x.seen(1, 0);
        x.seen(2, 0);
        x.lose(0);
        // Line 2 is printed in pass 1 by nozzle 2; idle: 0 in 0, 1; 1 in 0; 2 in 2.
        int[] due = {11, 6, 1, 4, 4, 4, 2, 3, 1};
        for (int what = 0; what < 9; what++) {
            Due.is("count(" + what + ")", x.count(what), due[what]);
        }
        for (int what : new int[] {-1, 9, Integer.MIN_VALUE, Integer.MAX_VALUE}) {
            Due.is("count(" + what + ")", x.count(what), -2);
        }
        x.sheet(0, 0, 1);
        Due.is("the latest finding stays", x.count(8), 1);
        x.put(0, 0, 1, 1);
        Due.is("the latest finding", x.count(8), 2);
        x.put(0, 1, 0, 1);
        Due.is("the latest finding", x.count(8), 3);
        x.sheet(1, 1, 1);
        x.copy(0, 0, 1, 0, 1);
        Due.is("the latest finding", x.count(8), 4);
        x.sheet(0, 0, -1);
        Due.is("the latest finding", x.count(8), 5);
    }

    private static void promise34() {
        Consumer<InkSwaths> first = x -> {
            for (int line = 0; line < 8; line++) {
                x.line(line, 1 << line);
            }
            x.event(0, 0, 2);
            x.event(0, 0, 3);
        };
        Due.is("digest that was told with the document", Twins.made(first).digest(), 2661393236394048149L);
        Due.is("digest by calls", Digest.byCalls(first), 2661393236394048149L);
        for (int i = 0; i < 24; i++) {
            int number = i;
            Consumer<InkSwaths> told = x -> tell(x, number);
            Due.is("digest of state " + i, Twins.made(told).digest(), Digest.byCalls(told));
        }
        InkSwaths x = Twins.made(first);
        x.line(0, 2);
        Due.is("another line, another digest", x.digest() == 2661393236394048149L ? 1 : 0, 0);
    }

    /** Many unlike states, so that no call that the digest is of can be left out or changed unseen. */
    private static void tell(InkSwaths x, int i) {
        Twins.tellHead(x, 2 + i % 7, 1 + i % 5, 1 + i % 4, 5 + i % 8, -i % 13, 1 + i % 3, 1 + i % 4, i % 4, i % 3);
        for (int line = 0; line < 16; line++) {
            x.line(line, (91 * line + 57 * i) & 255);
        }
        for (int e = 0; e < i % 6; e++) {
            x.event(e % 3 == 2 ? 1 : 0, (e + i) % 5, (e * i) % 4);
        }
        if (i % 4 == 3) {
            x.seen(i % 16, i % 3);
        }
    }
}
