/** The boundary cases of promises 7 to 17: what is hit, printed. */
public final class BoundsPrintTest {
    public static void main(String[] args) throws ReflectiveOperationException {
        Due.each(BoundsPrintTest.class, 7, 17);
    }

    /** One nozzle, one pass to the right: line 0 is hit once, the others are not. */
    private static InkSwaths once() {
        return Due.head(1, 1, 1, 1, 0);
    }

    /** No line is hit. */
    private static InkSwaths never() {
        return Due.head(1, 1, 1, 1, -20);
    }

    /** Line 0 is hit in passes 0 to 7 by nozzles 7 to 0, line 4 in passes 4 to 11 by nozzles 7 to 0. */
    private static InkSwaths often() {
        return Due.head(8, 1, 1, 12, -7);
    }

    /** Line 0 is hit by nozzle 2 in pass 0, by nozzle 1 in pass 1, by nozzle 0 in pass 2. */
    private static InkSwaths thrice() {
        return Due.head(3, 2, 2, 3, -4);
    }

    /** All 16 lines are hit, the first time in pass 0 to 4, the last time in pass 7 to 11. */
    private static InkSwaths wide() {
        return Due.head(8, 5, 1, 12, -20);
    }

    private static void kill(InkSwaths x, int nozzles) {
        for (int nozzle = 0; nozzle < nozzles; nozzle++) {
            x.event(0, 0, nozzle);
        }
    }

    // ---- promise 7: hits

    private static void promise7LinesAre0To15() {
        for (int wrong : Due.outside(0, 15)) {
            Twins.bad("hits(" + wrong + ")", x -> x.hits(wrong));
        }
        Due.is("hits(0) of a new one", new InkSwaths().hits(0), 1);
        Due.is("hits(15) of a new one", new InkSwaths().hits(15), 1);
    }

    private static void promise7NoHits() {
        InkSwaths x = never();
        for (int line = 0; line < 16; line++) {
            Due.is("hits(" + line + ")", x.hits(line), 0);
        }
    }

    private static void promise7AheadOfLine0() {
        InkSwaths x = once();
        Due.is("from 0: hits(0)", x.hits(0), 1);
        Due.is("from 0: all hits", x.count(1), 1);
        x.set(4, -1);
        Due.is("from -1: hits(0)", x.hits(0), 0);
        Due.is("from -1: all hits", x.count(1), 0);
    }

    private static void promise7BehindLine15ByPasses() {
        InkSwaths x = Due.head(1, 1, 12, 3, -9);
        Due.is("-9, 3, 15: hits(15)", x.hits(15), 1);
        Due.is("-9, 3, 15: all hits", x.count(1), 2);
        x.set(4, -8);
        Due.is("-8, 4, 16: hits(15)", x.hits(15), 0);
        Due.is("-8, 4, 16: all hits", x.count(1), 1);
    }

    private static void promise7BehindLine15ByNozzles() {
        InkSwaths x = Due.head(4, 5, 1, 1, 0);
        Due.is("0, 5, 10, 15: hits(15)", x.hits(15), 1);
        Due.is("0, 5, 10, 15: all hits", x.count(1), 4);
        InkSwaths y = Due.head(5, 4, 1, 1, 0);
        Due.is("0, 4, 8, 12, 16: hits(15)", y.hits(15), 0);
        Due.is("0, 4, 8, 12, 16: all hits", y.count(1), 4);
    }

    private static void promise7MostHits() {
        InkSwaths x = often();
        Due.is("hits(0)", x.hits(0), 8);
        Due.is("hits(4)", x.hits(4), 8);
        Due.is("hits(5)", x.hits(5), 7);
        Due.is("hits(11)", x.hits(11), 1);
        Due.is("hits(12)", x.hits(12), 0);
    }

    private static void promise7GreatestHead() {
        InkSwaths x = Due.head(8, 5, 12, 12, 0);
        int[] due = {1, 0, 0, 0, 0, 1, 0, 0, 0, 0, 1, 0, 1, 0, 0, 1};
        for (int line = 0; line < 16; line++) {
            Due.is("hits(" + line + ")", x.hits(line), due[line]);
        }
    }

    private static void promise7LeastStart() {
        InkSwaths x = Due.head(1, 1, 4, 6, -20);
        Due.is("in pass 5: hits(0)", x.hits(0), 1);
        x.set(3, 5);
        Due.is("without pass 5: hits(0)", x.hits(0), 0);
    }

    private static void promise7DeadNozzlesHitToo() {
        InkSwaths x = often();
        kill(x, 8);
        Due.is("hits(0)", x.hits(0), 8);
    }

    // ---- promise 8: hit

    private static void promise8LinesAre0To15() {
        for (int wrong : Due.outside(0, 15)) {
            Twins.bad("hit(" + wrong + ", 0, 0)", x -> x.hit(wrong, 0, 0));
        }
        InkSwaths x = new InkSwaths();
        Due.is("hit(0, 0, 0)", x.hit(0, 0, 0), 0);
        Due.is("hit(0, 0, 1)", x.hit(0, 0, 1), 3);
        Due.is("hit(15, 0, 0)", x.hit(15, 0, 0), 6);
        Due.is("hit(15, 0, 1)", x.hit(15, 0, 1), 0);
    }

    private static void promise8NumbersAre0To11() {
        for (int wrong : Due.outside(0, 11)) {
            Twins.bad("hit(0, " + wrong + ", 0)", x -> x.hit(0, wrong, 0));
            Twins.bad("hit(15, " + wrong + ", 1)", x -> x.hit(15, wrong, 1));
        }
        Due.is("hit(0, 11, 0)", often().hit(0, 11, 0), -1);
        Due.is("hit(0, 11, 1)", often().hit(0, 11, 1), -1);
    }

    private static void promise8WhatIs0And1() {
        for (int wrong : Due.outside(0, 1)) {
            Twins.bad("hit(0, 0, " + wrong + ")", x -> x.hit(0, 0, wrong));
        }
    }

    private static void promise8TheLastHitAndOneBehind() {
        InkSwaths x = often();
        Due.is("first of line 0: pass", x.hit(0, 0, 0), 0);
        Due.is("first of line 0: nozzle", x.hit(0, 0, 1), 7);
        Due.is("last of line 0: pass", x.hit(0, 7, 0), 7);
        Due.is("last of line 0: nozzle", x.hit(0, 7, 1), 0);
        Due.is("behind it: pass", x.hit(0, 8, 0), -1);
        Due.is("behind it: nozzle", x.hit(0, 8, 1), -1);
        Due.is("first of line 4: pass", x.hit(4, 0, 0), 4);
        Due.is("first of line 4: nozzle", x.hit(4, 0, 1), 7);
        Due.is("last of line 4: the last pass", x.hit(4, 7, 0), 11);
        Due.is("last of line 4: nozzle", x.hit(4, 7, 1), 0);
    }

    private static void promise8NoHits() {
        InkSwaths x = never();
        for (int line = 0; line < 16; line++) {
            for (int i = 0; i < 12; i++) {
                Due.is("hit(" + line + ", " + i + ", 0)", x.hit(line, i, 0), -1);
                Due.is("hit(" + line + ", " + i + ", 1)", x.hit(line, i, 1), -1);
            }
        }
    }

    /** Where there is no such HIT, what is not as told is BAD all the same. */
    private static void promise8BadAheadOfNone() {
        InkSwaths x = never();
        Due.is("hit(0, 12, 0)", x.hit(0, 12, 0), -2);
        Due.is("hit(0, 0, 2)", x.hit(0, 0, 2), -2);
        Due.is("hit(0, -1, 0)", x.hit(0, -1, 0), -2);
        Due.is("hit(16, 0, 0)", x.hit(16, 0, 0), -2);
        Due.is("hit(0, 11, -1)", x.hit(0, 11, -1), -2);
    }

    // ---- promise 9: by

    private static void promise9LinesAre0To15() {
        for (int wrong : Due.outside(0, 15)) {
            Twins.bad("by(" + wrong + ", 0, 0)", x -> x.by(wrong, 0, 0));
        }
        InkSwaths x = new InkSwaths();
        Due.fill(x, 255);
        Due.is("by(0, 0, 0)", x.by(0, 0, 0), 0);
        Due.is("by(15, 7, 0)", x.by(15, 7, 0), 0);
    }

    private static void promise9ColumnsAre0To7() {
        for (int wrong : Due.outside(0, 7)) {
            Twins.bad("by(0, " + wrong + ", 0)", x -> x.by(0, wrong, 0));
            Twins.bad("by(15, " + wrong + ", 1)", x -> x.by(15, wrong, 1));
        }
    }

    private static void promise9WhatIs0And1() {
        for (int wrong : Due.outside(0, 1)) {
            Twins.bad("by(0, 0, " + wrong + ")", x -> x.by(0, 0, wrong));
        }
    }

    private static void promise9NoDot() {
        InkSwaths x = often();
        byRow("no dots: printed", x, 0, 0, -1, -1, -1, -1, -1, -1, -1, -1);
        byRow("no dots: wanted", x, 0, 1, -1, -1, -1, -1, -1, -1, -1, -1);
        x.line(0, 0b01111110);
        byRow("all but the first and the last: printed", x, 0, 0, -1, 1, 2, 3, 4, 5, 6, -1);
        byRow("all but the first and the last: wanted", x, 0, 1, -1, 1, 2, 3, 4, 5, 6, -1);
    }

    private static void promise9NoHits() {
        InkSwaths x = never();
        Due.fill(x, 255);
        byRow("no hits: printed", x, 15, 0, -1, -1, -1, -1, -1, -1, -1, -1);
        byRow("no hits: wanted", x, 15, 1, -1, -1, -1, -1, -1, -1, -1, -1);
    }

    private static void promise9MissedHasAWantedHit() {
        InkSwaths x = thrice();
        x.line(0, 255);
        kill(x, 3);
        byRow("all dead: printed", x, 0, 0, -1, -1, -1, -1, -1, -1, -1, -1);
        byRow("all dead: wanted", x, 0, 1, 0, 1, 2, 0, 1, 2, 0, 1);
    }

    /** The number is taken modulo the HITS: as many as there are is 0, one less is the last. */
    private static void promise9MaskNumbersWrap() {
        InkSwaths x = Due.head(8, 2, 2, 12, -5);
        x.line(15, 255);
        Due.is("hits(15)", x.hits(15), 8);
        byRow("mask 0", x, 15, 1, 7, 0, 1, 2, 3, 4, 5, 6);
        x.set(8, 1);
        byRow("mask 1", x, 15, 1, 0, 1, 2, 3, 4, 5, 6, 7);
        x.set(8, 2);
        byRow("mask 2", x, 15, 1, 7, 7, 7, 7, 7, 7, 7, 7);
        x.set(8, 3);
        byRow("mask 3", x, 15, 1, 7, 7, 0, 0, 1, 1, 2, 2);
        byRow("mask 3: printed", x, 15, 0, 7, 7, 0, 0, 1, 1, 2, 2);
    }

    private static void promise9OneHitIsWantedByAll() {
        InkSwaths x = new InkSwaths();
        x.line(15, 255);
        for (int mask = 0; mask < 4; mask++) {
            x.set(8, mask);
            byRow("mask " + mask, x, 15, 1, 0, 0, 0, 0, 0, 0, 0, 0);
            byRow("mask " + mask + ": printed", x, 15, 0, 0, 0, 0, 0, 0, 0, 0, 0);
        }
    }

    /** Behind the last HIT it goes on from HIT 0. */
    private static void promise9FromTheLastHitToHit0() {
        InkSwaths x = thrice();
        x.line(0, 0b00000100);
        Due.is("as wanted", x.by(0, 2, 0), 2);
        x.event(0, 0, 0);
        Due.is("the last is dead: hit 0", x.by(0, 2, 0), 0);
        Due.is("it wants the last", x.by(0, 2, 1), 2);
        x.event(0, 0, 2);
        Due.is("hit 0 is dead, too: hit 1", x.by(0, 2, 0), 1);
        x.event(0, 1, 1);
        Due.is("all are dead", x.by(0, 2, 0), -1);
    }

    private static void promise9CapIsFull() {
        InkSwaths x = once();
        x.line(0, 255);
        x.set(5, 1);
        byRow("cap 1", x, 0, 0, 0, -1, -1, -1, -1, -1, -1, -1);
        x.set(5, 7);
        byRow("cap 7", x, 0, 0, 0, 0, 0, 0, 0, 0, 0, -1);
        x.set(5, 8);
        byRow("cap 8", x, 0, 0, 0, 0, 0, 0, 0, 0, 0, 0);
    }

    /** By mask 2 all dots of line 0 want hit 0; what is beyond CAP goes to the next ones. */
    private static void promise9FullGoesToTheNext() {
        InkSwaths x = thrice();
        x.line(0, 255);
        x.set(8, 2);
        x.set(5, 3);
        byRow("cap 3", x, 0, 0, 0, 0, 0, 1, 1, 1, 2, 2);
        x.set(5, 2);
        byRow("cap 2", x, 0, 0, 0, 0, 1, 1, 2, 2, -1, -1);
    }

    private static void promise9EdgeToTheRight() {
        InkSwaths x = once();
        x.line(0, 255);
        byRow("edge 0", x, 0, 0, 0, 0, 0, 0, 0, 0, 0, 0);
        x.set(7, 1);
        byRow("edge 1", x, 0, 0, 0, 0, 0, 0, 0, 0, 0, -1);
        x.set(7, 3);
        byRow("edge 3", x, 0, 0, 0, 0, 0, 0, 0, -1, -1, -1);
    }

    private static void promise9EdgeToTheLeft() {
        InkSwaths x = Due.head(1, 1, 1, 2, -1);
        x.line(0, 255);
        byRow("edge 0", x, 0, 0, 0, 0, 0, 0, 0, 0, 0, 0);
        x.set(7, 1);
        byRow("edge 1", x, 0, 0, -1, 0, 0, 0, 0, 0, 0, 0);
        x.set(7, 3);
        byRow("edge 3", x, 0, 0, -1, -1, -1, 0, 0, 0, 0, 0);
    }

    /** In the last PASSES there are, 10 to the right and 11 to the left. */
    private static void promise9EdgeInTheLastPasses() {
        InkSwaths x = Due.head(1, 1, 1, 12, -10);
        x.line(0, 255);
        x.line(1, 255);
        x.set(7, 3);
        byRow("pass 10", x, 0, 0, 0, 0, 0, 0, 0, -1, -1, -1);
        byRow("pass 11", x, 1, 0, -1, -1, -1, 0, 0, 0, 0, 0);
    }

    /** Fewest first: 5 to 7 can be printed by hit 1 alone, 0 to 2 by two hits, 3 and 4 by all three. */
    private static void promise9FewestFirst() {
        InkSwaths x = thrice();
        x.line(0, 255);
        x.set(7, 3);
        x.set(5, 1);
        byRow("cap 1", x, 0, 0, 0, 2, -1, -1, -1, 1, -1, -1);
        x.set(5, 3);
        byRow("cap 3", x, 0, 0, 0, 2, 2, 0, 2, 1, 1, 1);
    }

    /** All HITS count, the first and the last, to the right and to the left: those in the middle come last. */
    private static void promise9FewestOfAllHits() {
        InkSwaths rightLeft = Due.head(2, 1, 1, 2, -1);
        edges(rightLeft, 2);
        byRow("right, left: cap 2", rightLeft, 0, 0, 0, 0, -1, -1, -1, -1, 1, 1);
        rightLeft.set(5, 3);
        byRow("right, left: cap 3", rightLeft, 0, 0, 0, 0, 0, 1, -1, -1, 1, 1);
        InkSwaths leftRight = Due.head(2, 1, 1, 3, -2);
        edges(leftRight, 2);
        byRow("left, right: cap 2", leftRight, 0, 0, 1, 1, -1, -1, -1, -1, 0, 0);
        InkSwaths leftRightLeft = Due.head(3, 1, 1, 4, -3);
        edges(leftRightLeft, 1);
        byRow("left, right, left: cap 1", leftRightLeft, 0, 0, 1, -1, -1, -1, -1, -1, 0, 2);
    }

    private static void edges(InkSwaths x, int cap) {
        x.line(0, 255);
        x.set(7, 2);
        x.set(5, cap);
    }

    /**
     * Dead ones do not count: with the two to the right dead, 2 to 7 can be printed by one HIT alone, and are looked
     * at by columns. Did the dead ones count, 6 and 7 would come ahead of 2 to 5.
     */
    private static void promise9DeadOnesAreNotAmongTheFewest() {
        InkSwaths x = thrice();
        x.line(0, 255);
        x.set(7, 2);
        x.set(5, 2);
        x.event(0, 0, 2);
        x.event(0, 2, 0);
        byRow("cap 2", x, 0, 0, -1, -1, 1, 1, -1, -1, -1, -1);
        x.set(5, 5);
        byRow("cap 5", x, 0, 0, -1, -1, 1, 1, 1, 1, 1, -1);
    }

    /** CAP is for each HIT: what a NOZZLE prints in other PASSES, other NOZZLES in this one, does not count. */
    private static void promise9CapOfEachHit() {
        InkSwaths x = Due.head(2, 1, 2, 2, 0);
        for (int line = 0; line < 4; line++) {
            x.line(line, 0b00000111);
        }
        x.set(5, 2);
        for (int line = 0; line < 4; line++) {
            byRow("line " + line, x, line, 0, 0, 0, -1, -1, -1, -1, -1, -1);
        }
    }

    private static void byRow(String name, InkSwaths x, int line, int what, int... due) {
        for (int column = 0; column < 8; column++) {
            Due.is(name + ": column " + column, x.by(line, column, what), due[column]);
        }
    }

    // ---- promise 10: missed

    private static void promise10LinesAre0To15() {
        for (int wrong : Due.outside(0, 15)) {
            Twins.bad("missed(" + wrong + ")", x -> x.missed(wrong));
        }
        InkSwaths x = never();
        x.line(0, 1);
        x.line(15, 128);
        Due.is("missed(0)", x.missed(0), 1);
        Due.is("missed(15)", x.missed(15), 128);
    }

    private static void promise10NoneAndAll() {
        InkSwaths x = new InkSwaths();
        Due.is("no dots", x.missed(0), 0);
        x.line(0, 255);
        Due.is("none is missed", x.missed(0), 0);
        x.event(0, 0, 3);
        Due.is("all are missed by a dead nozzle", x.missed(0), 255);
        InkSwaths y = never();
        y.line(0, 255);
        Due.is("all are missed by no hits", y.missed(0), 255);
        y.line(0, 0);
        Due.is("no hits, no dots", y.missed(0), 0);
    }

    private static void promise10BeyondCap() {
        InkSwaths x = once();
        x.line(0, 255);
        int[] due = {254, 252, 248, 240, 224, 192, 128, 0};
        for (int cap = 1; cap <= 8; cap++) {
            x.set(5, cap);
            Due.is("cap " + cap, x.missed(0), due[cap - 1]);
        }
        x.set(5, 2);
        x.line(0, 0b11000000);
        Due.is("as many as cap", x.missed(0), 0);
        x.line(0, 0b11100000);
        Due.is("one more than cap", x.missed(0), 128);
    }

    private static void promise10BeyondEdge() {
        InkSwaths right = once();
        InkSwaths left = Due.head(1, 1, 1, 2, -1);
        right.line(0, 255);
        left.line(0, 255);
        int[] last = {0, 128, 192, 224};
        int[] first = {0, 1, 3, 7};
        for (int edge = 0; edge <= 3; edge++) {
            right.set(7, edge);
            left.set(7, edge);
            Due.is("to the right, edge " + edge, right.missed(0), last[edge]);
            Due.is("to the left, edge " + edge, left.missed(0), first[edge]);
        }
    }

    /** Dead from the PASS of the HIT on: it is missed; from the next one on: it is not. */
    private static void promise10DeadFromThatPassOn() {
        InkSwaths x = Due.head(1, 1, 1, 12, -5);
        x.line(0, 255);
        x.event(0, 6, 0);
        Due.is("from the pass behind on", x.missed(0), 0);
        x.event(0, 5, 0);
        Due.is("from that pass on", x.missed(0), 255);
        x.event(1, 5, 0);
        Due.is("cleaned from that pass on", x.missed(0), 0);
        x.back();
        x.event(1, 6, 0);
        Due.is("cleaned from the pass behind on", x.missed(0), 255);
    }

    // ---- promise 11: done

    private static void promise11LinesAre0To15() {
        for (int wrong : Due.outside(0, 15)) {
            Twins.bad("done(" + wrong + ")", x -> x.done(wrong));
        }
        InkSwaths x = new InkSwaths();
        Due.fill(x, 255);
        Due.is("done(0)", x.done(0), 0);
        Due.is("done(15)", x.done(15), 6);
    }

    private static void promise11NoneIsPrinted() {
        InkSwaths x = new InkSwaths();
        Due.is("no dots", x.done(0), -1);
        x.line(0, 255);
        x.event(0, 0, 3);
        Due.is("all are missed", x.done(0), -1);
        InkSwaths y = never();
        y.line(0, 255);
        Due.is("no hits", y.done(0), -1);
    }

    private static void promise11TheFirstAndTheLastPass() {
        InkSwaths x = once();
        x.line(0, 1);
        Due.is("in pass 0", x.done(0), 0);
        InkSwaths y = Due.head(1, 1, 1, 12, -11);
        y.line(0, 1);
        Due.is("in pass 11", y.done(0), 11);
        InkSwaths z = often();
        z.line(4, 255);
        Due.is("by 8 hits, the last in pass 11", z.done(4), 11);
    }

    private static void promise11SomeAreMissed() {
        InkSwaths x = thrice();
        x.line(0, 255);
        x.set(5, 1);
        Due.is("three are printed", x.done(0), 2);
        x.event(0, 0, 0);
        Due.is("two are printed", x.done(0), 1);
        x.event(0, 0, 1);
        Due.is("one is printed", x.done(0), 0);
    }

    // ---- promise 12: pass

    private static void promise12PassesAsThereAre() {
        for (int passes : new int[] {1, 8, 12}) {
            InkSwaths x = new InkSwaths();
            x.set(3, passes);
            for (int what = 0; what < 3; what++) {
                Due.is("pass 0 of " + passes, x.pass(0, 0, what) >= 0 ? 1 : 0, 1);
                Due.is("the last pass of " + passes, x.pass(passes - 1, 0, what) >= 0 ? 1 : 0, 1);
                for (int wrong : Due.outside(0, passes - 1)) {
                    Due.is("pass " + wrong + " of " + passes, x.pass(wrong, 0, what), -2);
                }
            }
        }
        for (int wrong : Due.outside(0, 11)) {
            Twins.bad("pass(" + wrong + ", 0, 0)", x -> x.pass(wrong, 0, 0));
        }
    }

    private static void promise12NozzlesAsThereAre() {
        for (int nozzles : new int[] {1, 4, 8}) {
            InkSwaths x = new InkSwaths();
            x.set(0, nozzles);
            for (int what = 0; what < 3; what++) {
                Due.is("nozzle 0 of " + nozzles, x.pass(0, 0, what) >= 0 ? 1 : 0, 1);
                Due.is("the last nozzle of " + nozzles, x.pass(0, nozzles - 1, what) >= 0 ? 1 : 0, 1);
                for (int wrong : Due.outside(0, nozzles - 1)) {
                    Due.is("nozzle " + wrong + " of " + nozzles, x.pass(0, wrong, what), -2);
                }
            }
        }
        for (int wrong : Due.outside(0, 7)) {
            Twins.bad("pass(0, " + wrong + ", 0)", x -> x.pass(0, wrong, 0));
        }
    }

    private static void promise12WhatIs0To2() {
        for (int wrong : Due.outside(0, 2)) {
            Twins.bad("pass(0, 0, " + wrong + ")", x -> x.pass(0, 0, wrong));
        }
    }

    private static void promise12DotsNoneAndAll() {
        InkSwaths x = once();
        Due.is("no dots", x.pass(0, 0, 0), 0);
        x.line(0, 255);
        Due.is("all dots", x.pass(0, 0, 0), 8);
        x.set(5, 1);
        Due.is("cap 1", x.pass(0, 0, 0), 1);
        x.event(0, 0, 0);
        Due.is("dead", x.pass(0, 0, 0), 0);
        InkSwaths y = never();
        y.line(0, 255);
        Due.is("no line is hit", y.pass(0, 0, 0), 0);
    }

    private static void promise12DotsInTheLastPassByTheLastNozzle() {
        InkSwaths x = Due.head(8, 1, 1, 12, -18);
        Due.fill(x, 255);
        Due.is("nozzle 7 in pass 11", x.pass(11, 7, 0), 8);
        Due.is("nozzle 6 in pass 11", x.pass(11, 6, 0), 0);
        Due.is("nozzle 7 in pass 10", x.pass(10, 7, 0), 0);
        Due.is("nozzle 0 in pass 0", x.pass(0, 0, 0), 0);
    }

    private static void promise12AliveFromThatPassOn() {
        InkSwaths x = Due.head(1, 1, 1, 12, -20);
        x.event(0, 11, 0);
        Due.is("pass 10", x.pass(10, 0, 2), 1);
        Due.is("pass 11", x.pass(11, 0, 2), 0);
        x.event(0, 0, 0);
        Due.is("pass 0", x.pass(0, 0, 2), 0);
        x.event(1, 1, 0);
        Due.is("pass 0 stays dead", x.pass(0, 0, 2), 0);
        Due.is("pass 1 is cleaned", x.pass(1, 0, 2), 1);
        Due.is("pass 10 is cleaned", x.pass(10, 0, 2), 1);
        Due.is("pass 11 stays dead", x.pass(11, 0, 2), 0);
    }

    private static void promise12GutterInTheLastOfRestPasses() {
        InkSwaths x = Due.head(1, 1, 1, 12, -20);
        int[] due = {0b111111111111, 0b101010101010, 0b100100100100, 0b100010001000, 0b001000010000, 0b100000100000};
        for (int rest = 1; rest <= 6; rest++) {
            x.set(6, rest);
            gutter("rest " + rest, x, 0, 12, due[rest - 1]);
        }
    }

    private static void promise12GutterWithTooFewPasses() {
        InkSwaths x = Due.head(1, 1, 1, 5, -20);
        x.set(6, 6);
        gutter("5 passes, rest 6", x, 0, 5, 0);
        x.set(3, 6);
        gutter("6 passes, rest 6", x, 0, 6, 0b100000);
        x.set(3, 11);
        gutter("11 passes, rest 6", x, 0, 11, 0b100000);
        x.set(3, 1);
        gutter("1 pass, rest 6", x, 0, 1, 0);
        x.set(6, 1);
        gutter("1 pass, rest 1", x, 0, 1, 1);
    }

    /** A DOT is printed in pass 5, in which a drop would be due. */
    private static void promise12GutterCountedAnewByADot() {
        InkSwaths x = Due.head(1, 1, 1, 12, -5);
        x.set(6, 6);
        gutter("no dot", x, 0, 12, 0b100000100000);
        x.line(0, 1);
        gutter("a dot in pass 5", x, 0, 12, 0b100000000000);
        x.line(1, 1);
        gutter("a dot in passes 5 and 6", x, 0, 12, 0);
        x.line(0, 0);
        gutter("a dot in pass 6", x, 0, 12, 0b000000100000);
        x.set(6, 1);
        gutter("a dot in pass 6, rest 1", x, 0, 12, 0b111110111111);
    }

    private static void promise12GutterCountedAnewWhenDead() {
        InkSwaths x = Due.head(1, 1, 1, 12, -20);
        x.set(6, 6);
        x.event(0, 5, 0);
        gutter("dead from pass 5 on", x, 0, 12, 0);
        x.event(1, 6, 0);
        gutter("dead in pass 5 alone", x, 0, 12, 0b100000000000);
        x.event(0, 11, 0);
        gutter("dead in passes 5 and 11", x, 0, 12, 0);
        x.event(0, 0, 0);
        x.set(6, 1);
        gutter("dead in passes 0 to 5 and 11, rest 1", x, 0, 12, 0b011111000000);
    }

    private static void gutter(String name, InkSwaths x, int nozzle, int passes, int due) {
        for (int pass = 0; pass < passes; pass++) {
            Due.is(name + ": pass " + pass, x.pass(pass, nozzle, 1), due >> pass & 1);
        }
    }

    // ---- promise 13: sum

    private static void promise13WhatIs0To3() {
        for (int wrong : Due.outside(0, 3)) {
            Twins.bad("sum(" + wrong + ")", x -> x.sum(wrong));
        }
    }

    private static void promise13NoDots() {
        sums("no dots", new InkSwaths(), 0, 0, 0, 8);
        sums("no dots, no hits", never(), 0, 0, 0, 0);
    }

    private static void promise13AllDots() {
        InkSwaths x = new InkSwaths();
        Due.fill(x, 255);
        Due.is("dots", x.sum(0), 128);
        Due.is("none is missed", x.sum(1), 0);
        Due.is("all as wanted", x.sum(2), 0);
        x.set(4, 0);
        x.set(0, 1);
        x.set(3, 1);
        Due.is("line 0 alone is hit: missed", x.sum(1), 120);
    }

    private static void promise13AllMissed() {
        InkSwaths x = new InkSwaths();
        Due.fill(x, 255);
        kill(x, 4);
        sums("all dead", x, 128, 128, 0, 0);
        InkSwaths y = never();
        Due.fill(y, 255);
        sums("no hits", y, 128, 128, 0, 0);
    }

    /** All dots of line 0 want hit 0, and all are printed by hit 1; those that are missed are not. */
    private static void promise13AllByAnotherHit() {
        InkSwaths x = Due.head(2, 1, 1, 2, -1);
        x.set(8, 2);
        x.line(0, 255);
        Due.is("as wanted", x.sum(2), 0);
        x.event(0, 0, 1);
        Due.is("by another hit", x.sum(2), 8);
        Due.is("missed", x.sum(1), 0);
        x.set(5, 3);
        Due.is("by another hit, cap 3", x.sum(2), 3);
        Due.is("missed, cap 3", x.sum(1), 5);
    }

    private static void promise13MostGutterDrops() {
        InkSwaths x = Due.head(8, 1, 1, 12, -20);
        x.set(6, 1);
        Due.is("8 nozzles in 12 passes", x.sum(3), 96);
        kill(x, 8);
        Due.is("all dead", x.sum(3), 0);
        x.back();
        Due.is("one alive", x.sum(3), 12);
        x.set(0, 7);
        Due.is("it is none of the head's", x.sum(3), 0);
    }

    private static void sums(String name, InkSwaths x, int... due) {
        for (int what = 0; what < 4; what++) {
            Due.is(name + ": sum(" + what + ")", x.sum(what), due[what]);
        }
    }

    // ---- promise 14: least

    private static void promise14NoneAndAll() {
        InkSwaths x = new InkSwaths();
        Due.is("no dots", x.least(), 0);
        Due.fill(x, 255);
        Due.is("all can be printed", x.least(), 0);
        kill(x, 4);
        Due.is("all dead", x.least(), 128);
        InkSwaths y = never();
        Due.fill(y, 255);
        Due.is("no hits", y.least(), 128);
    }

    private static void promise14NoHitMoreThanCap() {
        InkSwaths x = often();
        x.line(0, 255);
        x.set(5, 1);
        Due.is("8 hits, cap 1", x.least(), 0);
        x.event(0, 0, 0);
        Due.is("7 hits, cap 1", x.least(), 1);
        x.set(5, 2);
        Due.is("7 hits, cap 2", x.least(), 0);
        InkSwaths y = once();
        y.line(0, 255);
        for (int cap = 1; cap <= 8; cap++) {
            y.set(5, cap);
            Due.is("1 hit, cap " + cap, y.least(), 8 - cap);
        }
    }

    /** Line 0 is hit once to the right and once to the left. */
    private static void promise14NoHitBeyondEdge() {
        InkSwaths x = Due.head(2, 1, 1, 2, -1);
        x.set(7, 3);
        x.line(0, 255);
        Due.is("cap 8", x.least(), 0);
        x.set(5, 4);
        Due.is("cap 4", x.least(), 0);
        x.set(5, 3);
        Due.is("cap 3", x.least(), 2);
        x.line(0, 0b11100000);
        Due.is("cap 3, the last three", x.least(), 0);
        x.set(5, 2);
        Due.is("cap 2, the last three", x.least(), 1);
        x.line(0, 0b00000111);
        Due.is("cap 2, the first three", x.least(), 1);
        x.line(0, 0b00001111);
        Due.is("cap 2, the first three and one in the middle", x.least(), 1);
        x.line(0, 0b00011111);
        x.event(0, 0, 0);
        Due.is("cap 2, to the right alone", x.least(), 3);
    }

    // ---- promise 15: drops

    private static void promise15NozzlesAsThereAre() {
        for (int nozzles : new int[] {1, 4, 8}) {
            InkSwaths x = new InkSwaths();
            x.set(0, nozzles);
            Due.is("drops(0) of " + nozzles, x.drops(0), 2);
            Due.is("drops of the last of " + nozzles, x.drops(nozzles - 1), 2);
            for (int wrong : Due.outside(0, nozzles - 1)) {
                Due.is("drops(" + wrong + ") of " + nozzles, x.drops(wrong), -2);
            }
        }
        for (int wrong : Due.outside(0, 7)) {
            Twins.bad("drops(" + wrong + ")", x -> x.drops(wrong));
        }
    }

    private static void promise15NoneAndMost() {
        InkSwaths x = Due.head(1, 1, 1, 5, -20);
        x.set(6, 6);
        Due.is("no dot, no gutter drop", x.drops(0), 0);
        InkSwaths y = Due.head(1, 1, 1, 12, 0);
        Due.fill(y, 255);
        Due.is("8 dots in 12 passes", y.drops(0), 96);
        y.event(0, 0, 0);
        Due.is("dead", y.drops(0), 0);
        y.event(1, 11, 0);
        Due.is("alive in pass 11 alone", y.drops(0), 8);
        y.set(6, 1);
        y.line(11, 0);
        Due.is("a gutter drop in pass 11 alone", y.drops(0), 1);
    }

    // ---- promise 16: even

    private static void promise16WhatIs0To2() {
        for (int wrong : Due.outside(0, 2)) {
            Twins.bad("even(" + wrong + ")", x -> x.even(wrong));
        }
    }

    private static void promise16NoHits() {
        evens("no hits", never(), 0, 0, 0);
    }

    private static void promise16AllHaveJustOne() {
        evens("a new one", new InkSwaths(), 1, 1, 16);
    }

    private static void promise16MostAndFewest() {
        evens("8 hits, 1 hit of line 11 alone, none behind", often(), 0, 8, 1);
        evens("2 or 3 hits", wide(), 2, 3, 0);
        evens("line 0 alone", once(), 0, 1, 1);
        evens("lines 1, 8, 15", Due.head(1, 3, 7, 6, -20), 0, 1, 3);
    }

    private static void promise16DotsAndEventsDoNotMatter() {
        InkSwaths x = often();
        Due.fill(x, 255);
        kill(x, 8);
        evens("all dead", x, 0, 8, 1);
    }

    private static void evens(String name, InkSwaths x, int... due) {
        for (int what = 0; what < 3; what++) {
            Due.is(name + ": even(" + what + ")", x.even(what), due[what]);
        }
    }

    // ---- promise 17: open

    private static void promise17None() {
        Due.is("no dots", new InkSwaths().open(), 0);
        InkSwaths x = never();
        Due.fill(x, 255);
        Due.is("no hits", x.open(), 0);
        InkSwaths y = new InkSwaths();
        Due.fill(y, 255);
        kill(y, 4);
        Due.is("all are missed", y.open(), 0);
    }

    private static void promise17AllLines() {
        InkSwaths x = wide();
        Due.fill(x, 255);
        Due.is("all 16 are open in pass 5", x.open(), 16);
        x.line(15, 0);
        Due.is("line 15 has no dots", x.open(), 15);
    }

    /** It is begun by the first DOT printed, not by the first HIT; DONE by the last DOT printed, not by the last HIT. */
    private static void promise17ByDotsNotByHits() {
        InkSwaths x = thrice();
        x.line(4, 1);
        x.line(0, 0b00000010);
        Due.is("line 0 in pass 1, line 4 in pass 2", x.open(), 1);
        InkSwaths y = Due.head(3, 1, 1, 3, 0);
        // Line 2 is hit in passes 0 to 2, line 0 in pass 0 alone; column 1 of line 2 wants hit 0, column 2 hit 1.
        y.line(0, 1);
        y.line(2, 0b00000100);
        Due.is("line 0 in pass 0, line 2 in pass 1", y.open(), 1);
        y.line(2, 0b00000010);
        Due.is("both in pass 0", y.open(), 2);
    }

    /** A LINE of which DOTS are MISSED is DONE all the same. */
    private static void promise17MissedDotsDoNotKeepItOpen() {
        InkSwaths x = thrice();
        x.set(8, 1);
        x.set(5, 1);
        x.line(0, 255);
        x.event(0, 1, 1);
        x.event(0, 2, 0);
        x.line(4, 1);
        x.event(0, 0, 1);
        x.event(1, 2, 2);
        Due.is("line 0 is done in pass 0", x.done(0), 0);
        Due.is("line 4 is done in pass 2", x.done(4), 2);
        Due.is("not open together", x.open(), 1);
    }

    /** In one PASS alone it is begun and DONE; that PASS may be the first and the last there is. */
    private static void promise17OnePass() {
        InkSwaths x = Due.head(4, 5, 1, 1, 0);
        Due.fill(x, 255);
        Due.is("lines 0, 5, 10, 15 in pass 0", x.open(), 4);
        InkSwaths y = Due.head(1, 1, 1, 12, -11);
        Due.fill(y, 255);
        Due.is("line 0 in pass 11", y.open(), 1);
    }

    /** Begun in pass 0, done in pass 2: it is open in both, in pass 1 as well. */
    private static void promise17FromBegunToDone() {
        InkSwaths x = thrice();
        x.line(0, 0b00000101);
        Due.is("line 0 in passes 0 to 2", x.open(), 1);
        x.line(4, 1);
        Due.is("line 4 in pass 2", x.open(), 2);
        x.line(0, 0b00000001);
        Due.is("line 0 in pass 0 alone", x.open(), 1);
        x.line(0, 0b00000010);
        Due.is("line 0 in pass 1 alone", x.open(), 1);
        x.line(0, 0b00000100);
        Due.is("line 0 in pass 2 alone", x.open(), 2);
    }
}
