/** Promises 7 to 17: what is hit, printed. */
public final class PrintTest {
    public static void main(String[] args) {
        promise7();
        promise8();
        promise9();
        promise9Masks();
        promise9DeadAndFull();
        promise9EdgesAndFewestFirst();
        promise10();
        promise11();
        promise12();
        promise12Gutter();
        promise13();
        promise14();
        promise15();
        promise16();
        promise17();
        Due.end();
    }

    /** Hits: line 0 by (0, 2), (1, 1), (2, 0); line 2 by (1, 2), (2, 1); line 4 by (2, 2). */
    private static InkSwaths three() {
        return Due.head(3, 2, 2, 3, -4);
    }

    private static void promise7() {
        InkSwaths x = three();
        int[] due = {3, 0, 2, 0, 1, 0, 0, 0, 0, 0, 0, 0, 0, 0, 0, 0};
        for (int line = 0; line < 16; line++) {
            Due.is("hits(" + line + ")", x.hits(line), due[line]);
            Due.is("hits of a new one", new InkSwaths().hits(line), 1);
        }
        x.event(0, 0, 2);
        Due.is("a dead nozzle hits, too", x.hits(0), 3);
        InkSwaths most = Due.head(8, 1, 1, 12, -7);
        Due.is("all nozzles hit line 0", most.hits(0), 8);
        Due.is("all nozzles hit line 4", most.hits(4), 8);
        Due.is("nozzle 7 alone hits line 11", most.hits(11), 1);
        Due.is("line 12 is not hit", most.hits(12), 0);
        for (int line : new int[] {-1, 16, Integer.MIN_VALUE, Integer.MAX_VALUE}) {
            Due.is("hits(" + line + ")", x.hits(line), -2);
        }
    }

    private static void promise8() {
        InkSwaths x = three();
        int[][] due = {{0, 0, 0, 2}, {0, 1, 1, 1}, {0, 2, 2, 0}, {0, 3, -1, -1}, {0, 11, -1, -1},
            {1, 0, -1, -1}, {2, 0, 1, 2}, {2, 1, 2, 1}, {2, 2, -1, -1}, {4, 0, 2, 2}, {4, 1, -1, -1}, {15, 0, -1, -1}};
        for (int[] d : due) {
            Due.is("pass of hit " + d[1] + " of " + d[0], x.hit(d[0], d[1], 0), d[2]);
            Due.is("nozzle of hit " + d[1] + " of " + d[0], x.hit(d[0], d[1], 1), d[3]);
        }
        int[][] wrong = {{-1, 0, 0}, {16, 0, 0}, {0, -1, 0}, {0, 12, 0}, {0, 0, -1}, {0, 0, 2}, {1, 12, 0}, {1, 0, 2},
            {Integer.MAX_VALUE, 0, 0}, {0, Integer.MAX_VALUE, 0}, {0, Integer.MIN_VALUE, 1}};
        for (int[] w : wrong) {
            Due.is("a wrong hit", x.hit(w[0], w[1], w[2]), -2);
        }
    }

    private static void promise9() {
        InkSwaths x = three();
        x.line(0, 0b10110111);
        x.line(1, 255);
        int[] due = {0, 1, 2, -1, 1, 2, -1, 1};
        for (int column = 0; column < 8; column++) {
            Due.is("by(0, " + column + ", 0)", x.by(0, column, 0), due[column]);
            Due.is("by(0, " + column + ", 1)", x.by(0, column, 1), due[column]);
            Due.is("no hit: printed", x.by(1, column, 0), -1);
            Due.is("no hit: wanted", x.by(1, column, 1), -1);
            Due.is("no dot: printed", x.by(2, column, 0), -1);
            Due.is("no dot: wanted", x.by(2, column, 1), -1);
        }
        int[][] wrong = {{-1, 0, 0}, {16, 0, 0}, {0, -1, 0}, {0, 8, 0}, {0, 0, -1}, {0, 0, 2},
            {Integer.MIN_VALUE, 0, 0}, {0, Integer.MAX_VALUE, 0}, {1, 0, Integer.MAX_VALUE}};
        for (int[] w : wrong) {
            Due.is("a wrong place", x.by(w[0], w[1], w[2]), -2);
        }
    }

    private static void promise9Masks() {
        // Line 0 is hit by (0, 1), (1, 0); line 1 by (0, 2), (1, 1), (2, 0); line 2 by (1, 2), (2, 1).
        InkSwaths x = Due.head(3, 1, 1, 3, -1);
        x.line(0, 255);
        x.line(1, 255);
        x.line(2, 255);
        int[] hits = {2, 3, 2};
        for (int mask = 0; mask < 4; mask++) {
            x.set(8, mask);
            for (int line = 0; line < 3; line++) {
                for (int column = 0; column < 8; column++) {
                    int[] number = {line + column, column, line, column / 2 + line};
                    Due.is("wanted by mask " + mask, x.by(line, column, 1), number[mask] % hits[line]);
                    Due.is("printed by mask " + mask, x.by(line, column, 0), number[mask] % hits[line]);
                }
            }
        }
    }

    private static void promise9DeadAndFull() {
        InkSwaths x = three();
        x.line(0, 255);
        x.event(0, 1, 1);
        row("dead", x, 0, 0, 2, 2, 0, 2, 2, 0, 2);
        row("wanted of dead", x, 1, 0, 1, 2, 0, 1, 2, 0, 1);
        x.set(5, 3);
        row("dead and full", x, 0, 0, 2, 2, 0, 2, 0, -1, -1);
        x.set(5, 1);
        row("one each", x, 0, 0, 2, -1, -1, -1, -1, -1, -1);
        x.event(0, 0, 0);
        x.event(0, 0, 2);
        row("all dead", x, 0, -1, -1, -1, -1, -1, -1, -1, -1);
        row("wanted of all dead", x, 1, 0, 1, 2, 0, 1, 2, 0, 1);
    }

    private static void promise9EdgesAndFewestFirst() {
        InkSwaths x = three();
        x.line(0, 255);
        x.set(7, 2);
        row("two at the edges are not reached", x, 0, 0, 2, 2, 0, 1, 2, 1, 1);
        x.set(7, 3);
        row("three at the edges are not reached", x, 0, 0, 2, 2, 0, 1, 1, 1, 1);
        x.set(7, 2);
        x.set(5, 1);
        // 6 and 7 can be printed by one hit alone, 0 and 1 by two, the rest by three.
        row("fewest first", x, 0, 0, 2, -1, -1, -1, -1, 1, -1);
        x.line(0, 0b00111100);
        row("in the middle", x, 0, -1, -1, 2, 0, 1, -1, -1, -1);
    }

    private static void row(String what, InkSwaths x, int which, int... due) {
        for (int column = 0; column < 8; column++) {
            Due.is(what + " " + column, x.by(0, column, which), due[column]);
        }
    }

    private static void promise10() {
        InkSwaths x = three();
        x.line(0, 255);
        x.line(1, 77);
        x.line(2, 129);
        Due.is("none is missed", x.missed(0), 0);
        Due.is("no hit", x.missed(1), 77);
        Due.is("two hits", x.missed(2), 0);
        Due.is("no dots", x.missed(3), 0);
        x.event(0, 1, 1);
        x.set(5, 3);
        Due.is("full", x.missed(0), 192);
        x.set(7, 2);
        x.set(5, 1);
        x.back();
        Due.is("fewest first", x.missed(0), 188);
        for (int line : new int[] {-1, 16, Integer.MIN_VALUE, Integer.MAX_VALUE}) {
            Due.is("missed(" + line + ")", x.missed(line), -2);
        }
    }

    private static void promise11() {
        InkSwaths x = three();
        x.line(0, 0b00000011);
        x.line(1, 255);
        x.line(2, 255);
        Due.is("done by the second pass", x.done(0), 1);
        Due.is("never hit", x.done(1), -1);
        Due.is("done by the last pass", x.done(2), 2);
        Due.is("no dots", x.done(4), -1);
        x.line(0, 0b00001001);
        Due.is("done by the first pass", x.done(0), 0);
        x.line(0, 0b00001100);
        Due.is("the last one told by passes, not by columns", x.done(0), 2);
        x.set(5, 1);
        x.line(0, 255);
        Due.is("done with dots missed", x.done(0), 2);
        x.event(0, 0, 0);
        x.event(0, 0, 1);
        Due.is("later ones are dead", x.done(0), 0);
        x.event(0, 0, 2);
        Due.is("all are dead", x.done(0), -1);
        for (int line : new int[] {-1, 16, Integer.MIN_VALUE, Integer.MAX_VALUE}) {
            Due.is("done(" + line + ")", x.done(line), -2);
        }
    }

    private static void promise12() {
        InkSwaths x = three();
        x.line(0, 255);
        int[][] due = {{0, 0, 0}, {0, 1, 0}, {0, 2, 3}, {1, 0, 0}, {1, 1, 3}, {1, 2, 0}, {2, 0, 2}, {2, 1, 0}, {2, 2, 0}};
        for (int[] d : due) {
            Due.is("dots in " + d[0] + " by " + d[1], x.pass(d[0], d[1], 0), d[2]);
            Due.is("alive in " + d[0] + " by " + d[1], x.pass(d[0], d[1], 2), 1);
        }
        x.event(0, 1, 1);
        Due.is("dead: no dots", x.pass(1, 1, 0), 0);
        Due.is("dead: for another", x.pass(2, 0, 0), 5);
        Due.is("dead", x.pass(1, 1, 2), 0);
        Due.is("not yet dead", x.pass(0, 1, 2), 1);
        int[][] wrong = {{-1, 0, 0}, {3, 0, 0}, {0, -1, 0}, {0, 3, 0}, {0, 0, -1}, {0, 0, 3},
            {Integer.MIN_VALUE, 0, 0}, {0, Integer.MAX_VALUE, 0}, {0, 0, Integer.MIN_VALUE}};
        for (int[] w : wrong) {
            Due.is("a wrong pass", x.pass(w[0], w[1], w[2]), -2);
        }
        x.set(3, 12);
        x.set(0, 8);
        Due.is("now there is such a one", x.pass(11, 7, 0), 0);
    }

    private static void promise12Gutter() {
        InkSwaths x = new InkSwaths();
        gutter(x, 0, 0b00100100);
        x.line(3, 255);
        gutter(x, 0, 0b01000100);
        x.event(0, 1, 1);
        x.event(1, 2, 1);
        gutter(x, 1, 0b10010000);
        x.event(0, 0, 2);
        gutter(x, 2, 0);
        x.set(6, 1);
        gutter(x, 0, 0b11110111);
        gutter(x, 1, 0b11111101);
        x.set(6, 6);
        gutter(x, 3, 0b00100000);
        gutter(x, 0, 0);
        x.line(3, 0);
        gutter(x, 0, 0b00100000);
    }

    private static void gutter(InkSwaths x, int nozzle, int passes) {
        for (int pass = 0; pass < 8; pass++) {
            Due.is("gutter of " + nozzle + " in " + pass, x.pass(pass, nozzle, 1), passes >> pass & 1);
        }
    }

    private static void promise13() {
        InkSwaths x = three();
        x.line(0, 255);
        x.line(1, 3);
        x.event(0, 1, 1);
        Due.is("dots", x.sum(0), 10);
        Due.is("missed", x.sum(1), 2);
        Due.is("by another hit", x.sum(2), 3);
        Due.is("gutter drops", x.sum(3), 0);
        x.set(5, 3);
        Due.is("missed when full", x.sum(1), 4);
        Due.is("by another hit when full", x.sum(2), 3);
        x.set(6, 1);
        // Alive and idle: 0 in 0, 1; 1 in 0; 2 in 1, 2.
        Due.is("gutter drops", x.sum(3), 5);
        for (int what : new int[] {-1, 4, Integer.MIN_VALUE, Integer.MAX_VALUE}) {
            Due.is("sum(" + what + ")", x.sum(what), -2);
        }
    }

    private static void promise14() {
        InkSwaths x = three();
        Due.is("no dots", x.least(), 0);
        x.line(0, 255);
        x.line(2, 255);
        Due.is("room for all", x.least(), 0);
        x.line(1, 7);
        Due.is("no hit", x.least(), 3);
        x.set(5, 2);
        Due.is("room for 6 and 4", x.least(), 9);
        x.set(7, 3);
        // Line 0: 0, 1, 2 by two hits, 5, 6, 7 by one; line 2: 0, 1, 2 by one, 5, 6, 7 by one.
        Due.is("edges", x.least(), 9);
        x.line(0, 0b11100000);
        x.line(2, 0b00000111);
        Due.is("only at the edges", x.least(), 5);
        x.event(0, 1, 1);
        Due.is("line 0 by the right alone, line 2 by none", x.least(), 9);
    }

    private static void promise15() {
        InkSwaths x = new InkSwaths();
        Due.is("gutter drops alone", x.drops(0), 2);
        x.line(3, 255);
        x.line(7, 1);
        Due.is("8, 1 and a gutter drop ahead, one behind", x.drops(0), 11);
        Due.is("gutter drops alone", x.drops(3), 2);
        x.line(0, 15);
        Due.is("4 in pass 0 and two gutter drops", x.drops(3), 6);
        x.event(0, 4, 0);
        Due.is("dead from 4 on", x.drops(0), 9);
        for (int nozzle : new int[] {-1, 4, Integer.MIN_VALUE, Integer.MAX_VALUE}) {
            Due.is("drops(" + nozzle + ")", x.drops(nozzle), -2);
        }
        x.set(0, 8);
        Due.is("now there is such a one", x.drops(7), 2);
        x.set(0, 1);
        Due.is("now there is no such one", x.drops(1), -2);
    }

    private static void promise16() {
        InkSwaths x = three();
        Due.is("fewest", x.even(0), 0);
        Due.is("most", x.even(1), 3);
        Due.is("just one", x.even(2), 1);
        InkSwaths y = new InkSwaths();
        Due.is("fewest of a new one", y.even(0), 1);
        Due.is("most of a new one", y.even(1), 1);
        Due.is("just one of a new one", y.even(2), 16);
        // Line 15 is hit by nozzles 6 and 7 alone, line 4 by 0 to 5.
        InkSwaths z = Due.head(8, 2, 1, 12, -7);
        Due.is("fewest of many", z.even(0), 2);
        Due.is("most of many", z.even(1), 6);
        Due.is("just one of many", z.even(2), 0);
        InkSwaths far = Due.head(1, 1, 1, 1, -20);
        for (int what = 0; what < 3; what++) {
            Due.is("no line is hit", far.even(what), 0);
        }
        for (int what : new int[] {-1, 3, Integer.MIN_VALUE, Integer.MAX_VALUE}) {
            Due.is("even(" + what + ")", x.even(what), -2);
        }
    }

    private static void promise17() {
        InkSwaths x = new InkSwaths();
        Due.is("no dots", x.open(), 0);
        x.line(0, 255);
        Due.is("in pass 0 alone", x.open(), 1);
        for (int line = 0; line < 16; line++) {
            x.line(line, 255);
        }
        Due.is("lines 3, 6, 9, 12 in pass 3", x.open(), 4);
        InkSwaths y = three();
        y.line(0, 0b00000101);
        Due.is("begun in 0, done in 2", y.open(), 1);
        y.line(2, 0b00000001);
        Due.is("in pass 1 line 0 is open and not printed", y.open(), 2);
        y.line(0, 0b00000001);
        Due.is("done in 0, the other begun in 1", y.open(), 1);
        y.line(0, 0b00000010);
        Due.is("both in pass 1", y.open(), 2);
        y.line(4, 255);
        y.line(2, 255);
        Due.is("lines 2 and 4 in pass 2", y.open(), 2);
        y.line(0, 255);
        Due.is("lines 0, 2 and 4 in pass 2", y.open(), 3);
        y.line(1, 255);
        Due.is("what is not hit is not begun", y.open(), 3);
    }
}
