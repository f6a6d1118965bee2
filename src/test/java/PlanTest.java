/** Promises 18 and 19: plans. */
public final class PlanTest {
    public static void main(String[] args) {
        promise18();
        promise18AsWanted();
        promise18Wrong();
        promise19();
        promise19LeastRow();
        Due.end();
    }

    private static InkSwaths full() {
        InkSwaths x = new InkSwaths();
        for (int line = 0; line < 16; line++) {
            x.line(line, 255);
        }
        return x;
    }

    private static void promise18() {
        InkSwaths x = full();
        better("full, by feed", x, 0, 4, 0);
        better("full, by mask", x, 1, 0, 0);
        // -16 to -6 hit all lines.
        better("full, by start", x, 2, -16, 0);
        x.set(2, 1);
        x.set(3, 4);
        x.set(4, 0);
        x.set(8, 3);
        // Four passes from 0 on: by feed 1 lines 0 to 12 are hit, by feed 2 all but 1 and 14.
        better("full, by feed from 0 on", x, 0, 2, 16);
        better("by mask: all alike", x, 1, 0, 24);
        Due.is("feed stays", x.set(2, 4), 1);
        Due.is("start stays", x.set(4, -9), 0);
        Due.is("mask stays", x.set(8, 0), 3);
        x.set(3, 8);
        Due.is("what is told stays", x.sum(1), 0);
        InkSwaths none = new InkSwaths();
        better("no dots, by feed", none, 0, 1, 0);
        better("no dots, by mask", none, 1, 0, 0);
        better("no dots, by start", none, 2, -20, 0);
        for (int nozzle = 0; nozzle < 4; nozzle++) {
            x.event(0, 0, nozzle);
        }
        better("all dead, by feed", x, 0, 1, 128);
        better("all dead, by mask", x, 1, 0, 128);
        better("all dead, by start", x, 2, -20, 128);
    }

    private static void better(String what, InkSwaths x, int by, int which, int missed) {
        Due.is(what + ": which", x.better(by, 0), which);
        Due.is(what + ": missed", x.better(by, 1), missed);
    }

    private static void promise18AsWanted() {
        // Line 1 is hit in pass 0, which does not reach columns 5 on, and in pass 1, not columns 0 to 2.
        InkSwaths x = Due.head(2, 1, 1, 2, 0);
        x.set(7, 3);
        x.line(1, 0b00000001);
        better("column 0 wants hit 0 by mask 1", x, 1, 1, 0);
        x.line(1, 0b00000010);
        better("column 1 wants hit 0 by mask 0", x, 1, 0, 0);
        x.line(1, 0b00000100);
        better("column 2 wants hit 0 by mask 1, and by 3", x, 1, 1, 0);
        x.line(1, 0b01100000);
        better("columns 5, 6 want hit 1 by mask 2", x, 1, 2, 0);
        x.set(4, -1);
        x.line(1, 0);
        x.line(0, 0b11000011);
        better("columns 0, 1 want hit 0 and 6, 7 hit 1 by mask 3", x, 1, 3, 0);
        InkSwaths last = Due.head(1, 1, 1, 2, 0);
        last.line(12, 1);
        better("the greatest feed", last, 0, 12, 0);
        last.set(2, 12);
        last.line(0, 1);
        better("the greatest start", last, 2, 0, 0);
    }

    private static void promise18Wrong() {
        InkSwaths x = full();
        int[][] wrong = {{-1, 0}, {3, 0}, {0, -1}, {0, 2}, {Integer.MIN_VALUE, 0}, {0, Integer.MAX_VALUE}};
        for (int[] w : wrong) {
            Due.is("a wrong better", x.better(w[0], w[1]), Due.LEAST_INT);
        }
    }

    private static void promise19() {
        InkSwaths x = new InkSwaths();
        spare("no dots, no events", x, 0, -1, -1);
        x.line(0, 1);
        x.line(1, 1);
        x.event(0, 0, 3);
        spare("the only one", x, 1, 0, -1);
        x.event(0, 0, 2);
        spare("both", x, 2, 0, 1);
        x.event(0, 1, 2);
        spare("three would be", x, -1, -1, -1);
        x.line(0, 0);
        spare("the last two", x, 2, 1, 2);
        x.event(1, 1, 2);
        spare("cleaned: none", x, 0, -1, -1);
        x.line(0, 255);
        spare("the first one", x, 1, 0, -1);
        x.set(5, 1);
        spare("too full by itself", x, -1, -1, -1);
        for (int i : new int[] {-2, 2, Integer.MIN_VALUE, Integer.MAX_VALUE}) {
            Due.is("spare(" + i + ")", x.spare(i), -2);
        }
        Due.is("events stay", x.count(2), 4);
        Due.is("dead stays", x.pass(0, 3, 2), 0);
    }

    private static void spare(String what, InkSwaths x, int many, int first, int second) {
        Due.is(what + ": how many", x.spare(-1), many);
        Due.is(what + ": first", x.spare(0), first);
        Due.is(what + ": second", x.spare(1), second);
    }

    private static void promise19LeastRow() {
        // Line 1 is hit by nozzle 1 in pass 0, by nozzle 0 in pass 1.
        InkSwaths x = Due.head(2, 1, 1, 2, 0);
        x.line(1, 255);
        x.event(1, 0, 0);
        x.event(0, 0, 1);
        x.event(0, 1, 0);
        spare("either of two: the first", x, 1, 1, -1);
        x.event(0, 0, 0);
        spare("nozzle 1 alone, or nozzle 0 by two", x, 1, 1, -1);
        x.event(0, 0, 1);
        spare("nozzle 1 by 1 and 4, ahead of nozzle 0 by 2 and 3", x, 2, 1, 4);
    }
}
