/** Promises 20 to 26: seen, chance, tests. */
public final class SeenTest {
    private static final long BAD_LONG = Long.MIN_VALUE + 2;

    public static void main(String[] args) {
        promise20();
        promise21();
        promise22();
        promise23Deads();
        promise23Caps();
        promise24();
        promise25();
        promise25Wrong();
        promise26();
        Due.end();
    }

    /** By a new head line 0 is hit by nozzle 3, 1 by 2, 2 by 1, 3 by 0. */
    private static InkSwaths four() {
        return Due.picture(255, 3, 1, 7);
    }

    private static void promise20() {
        InkSwaths x = new InkSwaths();
        int[][] wrong = {{-1, 0}, {16, 0}, {0, -1}, {0, 9}, {Integer.MIN_VALUE, 0}, {0, Integer.MAX_VALUE}};
        for (int[] w : wrong) {
            Due.is("a wrong seen", x.seen(w[0], w[1]), -2);
        }
        Due.is("none seen", x.count(7), 0);
        for (int i = 1; i <= 8; i++) {
            Due.is("seen " + i, x.seen(i % 2 == 0 ? 15 : 0, i % 2 == 0 ? 8 : 0), i);
        }
        Due.is("a ninth", x.seen(0, 0), -4);
        for (int[] w : wrong) {
            Due.is("a wrong ninth", x.seen(w[0], w[1]), -2);
        }
        Due.is("eight seen", x.count(7), 8);
    }

    private static void promise21() {
        InkSwaths x = four();
        Due.is("nothing to forget", x.forget(), 0);
        x.seen(0, 8);
        x.seen(0, 7);
        Due.is("nothing fits", x.was(0), 0);
        Due.is("forget", x.forget(), 2);
        Due.is("all fit", x.was(0), 15);
        Due.is("none seen", x.count(7), 0);
        Due.is("nothing to forget", x.forget(), 0);
        Due.is("seen anew", x.seen(1, 2), 1);
        Due.is("it fits", x.was(0), 4);
    }

    private static void promise22() {
        InkSwaths x = four();
        Due.is("no events", x.never(), 0);
        x.event(0, 0, 3);
        x.event(0, 0, 0);
        Due.is("nothing seen", x.never(), 3);
        x.seen(0, 0);
        Due.is("line 0 needs the first not to be", x.never(), 1);
        x.seen(3, 3);
        Due.is("and has the second be", x.never(), 1);
        x.seen(1, 0);
        Due.is("no matter", x.never(), 1);
        x.forget();
        x.seen(3, 0);
        Due.is("line 3 needs the second not to be", x.never(), 2);
        x.seen(0, 0);
        Due.is("both would have not to be", x.never(), 0);
        x.forget();
        x.seen(0, 8);
        x.seen(3, 3);
        Due.is("one alone, not none", x.never(), 0);
        x.forget();
        x.event(1, 0, 3);
        x.seen(0, 8);
        Due.is("without the cleaning", x.never(), 4);
        Due.is("events stay", x.count(2), 3);
        x.forget();
        x.seen(0, 7);
        Due.is("so many, not more", x.never(), 0);
    }

    private static void promise23Deads() {
        InkSwaths x = four();
        Due.is("nothing seen", x.was(0), 15);
        x.event(0, 0, 0);
        Due.is("events are not told then", x.was(0), 15);
        x.seen(0, 0);
        Due.is("not 3", x.was(0), 7);
        x.seen(3, 3);
        Due.is("0 alone", x.was(0), 1);
        x.seen(1, 2);
        Due.is("two at once", x.was(0), 0);
        x.forget();
        x.set(0, 8);
        Due.is("eight nozzles", x.was(0), 255);
        x.set(0, 1);
        Due.is("one nozzle", x.was(0), 1);
        x.set(0, 4);
        x.set(5, 5);
        x.seen(0, 3);
        Due.is("by cap 5 the others miss three", x.was(0), 7);
        for (int what : new int[] {-1, 2, Integer.MIN_VALUE, Integer.MAX_VALUE}) {
            Due.is("was(" + what + ")", x.was(what), -2);
        }
    }

    private static void promise23Caps() {
        InkSwaths x = four();
        Due.is("nothing seen", x.was(1), 510);
        x.set(5, 2);
        x.seen(0, 5);
        Due.is("cap 3", x.was(1), 8);
        x.forget();
        x.seen(0, 0);
        Due.is("cap 8", x.was(1), 256);
        x.forget();
        x.seen(0, 7);
        Due.is("cap 1", x.was(1), 2);
        x.forget();
        x.seen(3, 0);
        Due.is("cap 3 on", x.was(1), 504);
        x.event(0, 0, 0);
        Due.is("events as told", x.was(1), 0);
        x.forget();
        x.seen(3, 3);
        Due.is("dead by any cap", x.was(1), 510);
        Due.is("cap stays", x.set(5, 8), 2);
    }

    private static void promise24() {
        InkSwaths x = new InkSwaths();
        Due.is("all lines alike", x.ask(), 0);
        x.line(5, 1);
        Due.is("line 5 tells 2 from the rest", x.ask(), 5);
        x.line(9, 255);
        Due.is("of like ones the least", x.ask(), 5);
        x.seen(5, 1);
        Due.is("2 is known: all lines alike", x.ask(), 0);
        x.forget();
        x.seen(5, 0);
        Due.is("2 is not: lines 9 is by 2, too", x.ask(), 0);
        x.line(12, 3);
        Due.is("line 12 tells 3 from 0 and 1", x.ask(), 12);
        x.seen(4, 1);
        Due.is("none may be", x.ask(), 0);
        // Line 0 by (0, 2), (1, 1), (2, 0); line 2 by (1, 2), (2, 1).
        InkSwaths y = Due.head(3, 2, 2, 3, -4);
        y.set(7, 2);
        y.line(0, 0b10000001);
        Due.is("line 0 tells 1 from 0 and 2", y.ask(), 0);
        y.line(2, 0b10000011);
        Due.is("line 2 tells all: 0, 2 and 1 are missed", y.ask(), 2);
        y.event(0, 0, 0);
        Due.is("events are not told then", y.ask(), 2);
    }

    private static void promise25() {
        InkSwaths x = new InkSwaths();
        chance("no events", x, 7, 1, 1);
        x.line(0, 255);
        chance("no events, dots", x, 0, 1, 1);
        x.event(0, 0, 3);
        chance("one by 4", x, 4, 3, 4);
        chance("one by 5", x, 5, 11, 16);
        chance("one by 0", x, 0, 1, 1);
        chance("one by 16", x, 16, 0, 1);
        x.line(1, 1);
        x.event(0, 1, 2);
        chance("two by 5", x, 5, 121, 256);
        chance("two by 8", x, 8, 1, 4);
        x.back();
        x.event(1, 0, 3);
        chance("dead and not cleaned by 4", x, 4, 13, 16);
        chance("dead and not cleaned by 16", x, 16, 1, 1);
        x.event(0, 7, 1);
        chance("no matter", x, 4, 13, 16);
        x.set(5, 7);
        chance("too full", x, 4, 0, 1);
        InkSwaths y = Due.picture(1);
        for (int i = 0; i < 8; i++) {
            y.event(0, 0, 3);
        }
        chance("eight by 1", y, 1, 2562890625L, 4294967296L);
        chance("eight by 15", y, 15, 1, 4294967296L);
        chance("eight by 8", y, 8, 1, 256);
        chance("eight by 16", y, 16, 0, 1);
        chance("eight by 0", y, 0, 1, 1);
    }

    private static void chance(String what, InkSwaths x, int c, long above, long below) {
        Due.is(what + ": above", x.chance(c, 0), above);
        Due.is(what + ": below", x.chance(c, 1), below);
    }

    private static void promise25Wrong() {
        InkSwaths x = four();
        x.event(0, 0, 3);
        int[][] wrong = {{-1, 0}, {17, 0}, {0, -1}, {0, 2}, {Integer.MIN_VALUE, 1}, {4, Integer.MAX_VALUE}};
        for (int[] w : wrong) {
            Due.is("a wrong chance", x.chance(w[0], w[1]), BAD_LONG);
        }
        Due.is("events stay", x.sum(1), 8);
    }

    private static void promise26() {
        InkSwaths x = four();
        InkSwaths dead = new InkSwaths();
        for (int nozzle = 0; nozzle < 4; nozzle++) {
            dead.event(0, 0, nozzle);
        }
        for (int seed : new int[] {0, 1, 7, -1, 123456789, Integer.MIN_VALUE, Integer.MAX_VALUE}) {
            for (int n = 0; n <= 16; n++) {
                Due.is("all are hit", x.tests(seed, n, 0), 0);
                Due.is("all dead: all are missed", dead.tests(seed, n, 0), dotsByLot(seed, n));
                Due.is("all dead: no gutter drops", dead.tests(seed, n, 1), 0);
            }
            Due.is("no dots: as a new one", x.tests(seed, 0, 1), 8);
        }
        x.set(6, 6);
        Due.is("rest as told", x.tests(1, 0, 1), 4);
        Due.is("the picture stays", x.line(0, 0), 255);
        Due.is("the dead ones' picture stays", dead.sum(0), 0);
        int[][] wrong = {{1, -1, 0}, {1, 17, 0}, {1, 3, -1}, {1, 3, 2}, {0, Integer.MIN_VALUE, 0}, {0, 0, Integer.MAX_VALUE}};
        for (int[] w : wrong) {
            Due.is("wrong tests", x.tests(w[0], w[1], w[2]), -2);
        }
    }

    /** How many dots lots of 256 have, by long numbers that are cut to 32 bits. */
    private static int dotsByLot(int seed, int n) {
        long lot = seed & 0xffffffffL;
        int many = 0;
        for (int i = 0; i < n; i++) {
            lot = (1103515245L * lot + 12345L) & 0xffffffffL;
            many += Long.bitCount(lot / 65536 % 256);
        }
        return many;
    }
}
