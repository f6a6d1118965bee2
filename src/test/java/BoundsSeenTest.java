/** The boundary cases of promises 20 to 26: seen, chance, tests. */
public final class BoundsSeenTest {
    public static void main(String[] args) throws ReflectiveOperationException {
        Due.each(BoundsSeenTest.class, 20, 26);
    }

    /** One pass to the right, in which nozzles 0 to 7 are at lines 0 to 7, each of which has one dot. */
    private static InkSwaths eight() {
        InkSwaths x = Due.head(8, 1, 1, 1, 0);
        for (int line = 0; line < 8; line++) {
            x.line(line, 1);
        }
        return x;
    }

    private static InkSwaths eightDead() {
        InkSwaths x = eight();
        for (int nozzle = 0; nozzle < 8; nozzle++) {
            x.event(0, 0, nozzle);
        }
        return x;
    }

    /** One nozzle, one pass to the right: line 0, of all dots, is hit once. */
    private static InkSwaths once() {
        InkSwaths x = Due.head(1, 1, 1, 1, 0);
        x.line(0, 255);
        return x;
    }

    private static InkSwaths neverHit() {
        return Due.head(1, 1, 1, 1, -20);
    }

    // ---- promise 20: seen

    private static void promise20LinesAre0To15() {
        for (int wrong : Due.outside(0, 15)) {
            Twins.bad("seen(" + wrong + ", 0)", x -> x.seen(wrong, 0));
        }
        InkSwaths x = new InkSwaths();
        Due.is("seen(0, 0)", x.seen(0, 0), 1);
        Due.is("seen(15, 0)", x.seen(15, 0), 2);
        Due.is("both come out so", x.was(0), 15);
        x.line(15, 1);
        x.set(4, 0);
        x.set(3, 1);
        x.set(0, 1);
        Due.is("line 15 does not", x.was(0), 0);
    }

    private static void promise20DotsAre0To8() {
        for (int wrong : Due.outside(0, 8)) {
            Twins.bad("seen(0, " + wrong + ")", x -> x.seen(0, wrong));
        }
        InkSwaths x = neverHit();
        Due.is("seen(0, 0)", x.seen(0, 0), 1);
        Due.is("it comes out so", x.was(1), 510);
        Due.is("seen(1, 8)", x.seen(1, 8), 2);
        Due.is("it does not come out so", x.was(1), 0);
        x.line(1, 255);
        Due.is("now it does", x.was(1), 510);
    }

    private static void promise20LineAndDotsBothWrong() {
        Twins.bad("seen(-1, 9)", x -> x.seen(-1, 9));
        Twins.bad("seen(16, -1)", x -> x.seen(16, -1));
    }

    private static void promise20EightAtMost() {
        InkSwaths x = neverHit();
        for (int i = 1; i <= 8; i++) {
            Due.is("seen " + i, x.seen(0, 0), i);
        }
        Due.is("a ninth", x.seen(0, 1), -4);
        Due.is("count(7)", x.count(7), 8);
        Due.is("the ninth was not seen", x.was(1), 510);
        Due.is("forget()", x.forget(), 8);
        Due.is("the first anew", x.seen(0, 1), 1);
        Due.is("it was seen", x.was(1), 0);
    }

    private static void promise20FullChangesNothing() {
        Twins.refused("seen(0, 0)", Twins::most, x -> x.seen(0, 0), -4);
        Twins.refused("seen(15, 8)", Twins::most, x -> x.seen(15, 8), -4);
    }

    private static void promise20BadAheadOfFull() {
        Twins.refused("seen(16, 0)", Twins::most, x -> x.seen(16, 0), -2);
        Twins.refused("seen(0, 9)", Twins::most, x -> x.seen(0, 9), -2);
        Twins.refused("seen(-1, -1)", Twins::most, x -> x.seen(-1, -1), -2);
    }

    private static void promise20LikeOnesAreCountedTwice() {
        InkSwaths x = new InkSwaths();
        Due.is("seen(3, 1)", x.seen(3, 1), 1);
        Due.is("seen(3, 1) once more", x.seen(3, 1), 2);
        Due.is("seen(3, 2), too", x.seen(3, 2), 3);
    }

    // ---- promise 21: forget

    private static void promise21Nothing() {
        InkSwaths x = new InkSwaths();
        long before = x.digest();
        Due.is("forget()", x.forget(), 0);
        Due.is("nothing is changed", x.digest(), before);
    }

    private static void promise21One() {
        InkSwaths x = eight();
        x.seen(0, 1);
        Due.is("ahead", x.was(0), 1);
        Due.is("forget()", x.forget(), 1);
        Due.is("behind", x.was(0), 255);
        Due.is("count(7)", x.count(7), 0);
        Due.is("forget() of nothing", x.forget(), 0);
    }

    private static void promise21AllEight() {
        InkSwaths x = new InkSwaths();
        Twins.most(x);
        Due.is("forget()", x.forget(), 8);
        Due.is("count(7)", x.count(7), 0);
        Due.is("events stay", x.count(2), 8);
        Due.is("all come out so", x.never(), 255);
        Due.is("eight anew: the first", x.seen(0, 8), 1);
    }

    // ---- promise 22: never

    private static void promise22NoEvents() {
        InkSwaths x = eight();
        Due.is("nothing seen", x.never(), 0);
        x.seen(0, 0);
        Due.is("what was seen comes out so anyway", x.never(), 0);
        Due.is("a new one", new InkSwaths().never(), 0);
    }

    private static void promise22NothingSeen() {
        InkSwaths x = eightDead();
        Due.is("eight events", x.never(), 255);
        x.back();
        Due.is("seven events", x.never(), 127);
    }

    private static void promise22TheFirstAndTheLastEvent() {
        InkSwaths x = eightDead();
        x.seen(0, 0);
        Due.is("event 0", x.never(), 1);
        x.forget();
        x.seen(7, 0);
        Due.is("event 7", x.never(), 128);
    }

    private static void promise22AllEightSeen() {
        InkSwaths x = eightDead();
        for (int line = 0; line < 7; line++) {
            x.seen(line, 1);
        }
        Due.is("event 7 alone", x.never(), 128);
        x.seen(7, 0);
        Due.is("event 7 alone, by eight", x.never(), 128);
        x.forget();
        for (int line = 0; line < 8; line++) {
            x.seen(line, 1);
        }
        Due.is("with none away", x.never(), 0);
    }

    private static void promise22SeenThatDoNotGoTogether() {
        InkSwaths x = eightDead();
        x.seen(3, 0);
        x.seen(3, 1);
        Due.is("both of a line", x.never(), 0);
    }

    /** EVENTS of a NOZZLE and of a PASS that the head does not have: what was SEEN comes out so without them, too. */
    private static void promise22EventsBeyondTheHead() {
        InkSwaths x = once();
        x.event(0, 0, 7);
        x.event(0, 11, 0);
        Due.is("nothing seen", x.never(), 3);
        x.seen(0, 0);
        Due.is("none is missed", x.never(), 3);
        x.seen(0, 1);
        Due.is("one would be", x.never(), 0);
    }

    private static void promise22OneAloneNotTwo() {
        InkSwaths x = once();
        x.event(0, 0, 0);
        x.event(0, 0, 0);
        x.seen(0, 0);
        Due.is("either leaves it dead", x.never(), 0);
        x.forget();
        x.seen(0, 8);
        Due.is("either leaves all missed", x.never(), 3);
    }

    // ---- promise 23: was

    private static void promise23WhatIs0And1() {
        for (int wrong : Due.outside(0, 1)) {
            Twins.bad("was(" + wrong + ")", x -> x.was(wrong));
        }
    }

    private static void promise23DeadsOfNothingSeen() {
        InkSwaths x = eight();
        Due.is("8 nozzles", x.was(0), 255);
        x.set(0, 7);
        Due.is("7 nozzles", x.was(0), 127);
        x.set(0, 1);
        Due.is("1 nozzle", x.was(0), 1);
    }

    private static void promise23DeadsTheFirstAndTheLast() {
        InkSwaths x = eight();
        x.seen(0, 1);
        Due.is("nozzle 0", x.was(0), 1);
        x.forget();
        x.seen(7, 1);
        Due.is("nozzle 7", x.was(0), 128);
        x.set(0, 7);
        Due.is("nozzle 7 is none: line 7 is missed by each", x.was(0), 127);
    }

    private static void promise23DeadsByAllEightSeen() {
        InkSwaths x = eight();
        for (int line = 0; line < 7; line++) {
            x.seen(line, 0);
        }
        Due.is("by seven", x.was(0), 128);
        x.seen(7, 1);
        Due.is("by eight", x.was(0), 128);
        x.forget();
        for (int line = 0; line < 8; line++) {
            x.seen(line, 0);
        }
        Due.is("none may be dead", x.was(0), 0);
    }

    /** Dead from PASS 0 on, in all PASSES, and no EVENTS told. */
    private static void promise23DeadsInAllPasses() {
        InkSwaths x = Due.head(1, 1, 1, 12, 0);
        x.line(0, 1);
        x.line(11, 255);
        x.seen(0, 1);
        x.seen(11, 8);
        Due.is("in passes 0 and 11", x.was(0), 1);
        x.event(1, 11, 0);
        Due.is("a cleaning is not told then", x.was(0), 1);
        x.event(0, 0, 0);
        x.forget();
        x.seen(0, 0);
        Due.is("it would be dead", x.was(0), 0);
    }

    private static void promise23CapsOfNothingSeen() {
        Due.is("caps 1 to 8", once().was(1), 510);
        Due.is("caps 1 to 8 of a new one", new InkSwaths().was(1), 510);
    }

    private static void promise23CapsFrom1To8() {
        InkSwaths x = once();
        for (int cap = 1; cap <= 8; cap++) {
            x.seen(0, 8 - cap);
            Due.is(8 - cap + " are missed", x.was(1), 1 << cap);
            x.forget();
        }
        x.seen(0, 8);
        Due.is("by no cap are all missed", x.was(1), 0);
        x.event(0, 0, 0);
        Due.is("dead: by each", x.was(1), 510);
        x.event(1, 0, 0);
        Due.is("cleaned: by none", x.was(1), 0);
    }

    private static void promise23CapsByAllEightSeen() {
        InkSwaths x = once();
        x.line(1, 3);
        for (int i = 0; i < 7; i++) {
            x.seen(1, 2);
        }
        Due.is("by seven", x.was(1), 510);
        x.seen(0, 5);
        Due.is("by eight", x.was(1), 8);
    }

    private static void promise23SeenThatDoNotGoTogether() {
        InkSwaths x = once();
        x.seen(0, 0);
        x.seen(0, 8);
        Due.is("deads", x.was(0), 0);
        Due.is("caps", x.was(1), 0);
    }

    // ---- promise 24: ask

    private static void promise24AllLinesAlike() {
        Due.is("no dots", new InkSwaths().ask(), 0);
        InkSwaths x = neverHit();
        Due.fill(x, 255);
        Due.is("no hits", x.ask(), 0);
        Due.is("1 nozzle", once().ask(), 0);
    }

    private static void promise24NoDeads() {
        InkSwaths x = eight();
        x.seen(0, 8);
        Due.is("was(0)", x.was(0), 0);
        Due.is("ask()", x.ask(), 0);
    }

    private static void promise24TheLastLine() {
        InkSwaths x = Due.head(4, 5, 1, 1, 0);
        x.line(15, 1);
        Due.is("line 15 alone tells", x.ask(), 15);
        x.line(10, 255);
        Due.is("of like ones the least", x.ask(), 10);
        x.seen(10, 0);
        Due.is("nozzle 2 is not dead: line 15", x.ask(), 15);
        x.seen(15, 0);
        Due.is("nozzles 0 and 1 are left: no line tells", x.ask(), 0);
        x.line(5, 1);
        Due.is("line 5 tells", x.ask(), 5);
    }

    /** Line 1 is hit by nozzle 1 in pass 0, by nozzle 0 in pass 1; line 2 by nozzle 1 in pass 1 alone. */
    private static void promise24AsManyNotWhich() {
        InkSwaths x = Due.head(2, 1, 1, 2, 0);
        x.set(5, 1);
        x.line(1, 3);
        Due.is("line 1: either makes one missed", x.ask(), 0);
        x.line(2, 1);
        Due.is("line 2: nozzle 1 makes one missed, nozzle 0 none", x.ask(), 2);
        x.line(2, 0);
        x.set(7, 1);
        x.line(1, 0b10000001);
        Due.is("the first and the last column: one each", x.ask(), 0);
        x.line(1, 0b10000000);
        Due.is("the last column: nozzle 0 makes one missed, nozzle 1 none", x.ask(), 1);
    }

    /** It is the greatest number that counts, not how many unlike numbers there are. */
    private static void promise24TheGreatestNumber() {
        // Nozzles 2 and 0 hit line 2, nozzles 3 and 1 hit line 3, the first of them to the right.
        InkSwaths x = Due.head(4, 1, 2, 2, 0);
        x.set(7, 2);
        x.line(2, 0b10000001);
        x.line(3, 0b10000011);
        Due.is("2 and 2 are like 2, 1 and 1", x.ask(), 2);
        x.line(2, 0b10000011);
        x.line(3, 0b10000001);
        Due.is("2, 1 and 1 are like 2 and 2", x.ask(), 2);
        x.line(2, 0);
        Due.is("line 3 alone tells", x.ask(), 3);
        // Line 1 is hit by nozzles 2, 0 to the right and to the left, line 5 by 4, 2, 0 to the left, right, left.
        InkSwaths y = Due.head(6, 1, 2, 4, -1);
        y.set(7, 2);
        y.set(5, 2);
        y.line(1, 0b10000011);
        Due.is("line 1: by nozzle 2 two are missed, by 0 one, by the four others none", y.ask(), 1);
        y.line(5, 255);
        Due.is("line 5: by three four are missed, by three two", y.ask(), 5);
    }

    // ---- promise 25: chance

    private static void promise25SixteenthsAre0To16() {
        for (int wrong : Due.outside(0, 16)) {
            Twins.badAsLeastLong("chance(" + wrong + ", 0)", x -> x.chance(wrong, 0));
            Twins.badAsLeastLong("chance(" + wrong + ", 1)", x -> x.chance(wrong, 1));
        }
        InkSwaths x = once();
        x.event(0, 0, 0);
        chance("none is", x, 0, 1, 1);
        chance("all are", x, 16, 0, 1);
        chance("c 1", x, 1, 15, 16);
        chance("c 15", x, 15, 1, 16);
    }

    private static void promise25WhatIs0And1() {
        for (int wrong : Due.outside(0, 1)) {
            Twins.badAsLeastLong("chance(0, " + wrong + ")", x -> x.chance(0, wrong));
            Twins.badAsLeastLong("chance(16, " + wrong + ")", x -> x.chance(16, wrong));
        }
    }

    private static void promise25NoEvents() {
        InkSwaths x = once();
        for (int c = 0; c <= 16; c++) {
            chance("none is missed", x, c, 1, 1);
        }
        x.line(1, 1);
        for (int c = 0; c <= 16; c++) {
            chance("one is missed", x, c, 0, 1);
        }
        chance("no dots", new InkSwaths(), 5, 1, 1);
    }

    private static void promise25EightEvents() {
        InkSwaths x = eightDead();
        chance("c 0", x, 0, 1, 1);
        chance("c 1", x, 1, 2562890625L, 4294967296L);
        chance("c 2", x, 2, 5764801, 16777216);
        chance("c 4", x, 4, 6561, 65536);
        chance("c 8", x, 8, 1, 256);
        chance("c 12", x, 12, 1, 65536);
        chance("c 15", x, 15, 1, 4294967296L);
        chance("c 16", x, 16, 0, 1);
    }

    /** Whether the EVENTS are does not matter: it is 1 by 1 or 0 by 1, however many there are. */
    private static void promise25EventsThatDoNotMatter() {
        InkSwaths x = eightDead();
        for (int line = 0; line < 8; line++) {
            x.line(line, 0);
        }
        chance("no dots", x, 5, 1, 1);
        x.line(15, 1);
        chance("no hits", x, 5, 0, 1);
        chance("no hits, c 0", x, 0, 0, 1);
    }

    private static void promise25EachByItself() {
        InkSwaths x = once();
        x.event(0, 0, 0);
        x.event(1, 0, 0);
        chance("dead, then cleaned: c 0", x, 0, 1, 1);
        chance("dead, then cleaned: c 1", x, 1, 241, 256);
        chance("dead, then cleaned: c 8", x, 8, 3, 4);
        chance("dead, then cleaned: c 16", x, 16, 1, 1);
        InkSwaths y = once();
        y.event(1, 0, 0);
        y.event(0, 0, 0);
        chance("cleaned, then dead: c 1", y, 1, 15, 16);
        chance("cleaned, then dead: c 6", y, 6, 5, 8);
        chance("cleaned, then dead: c 16", y, 16, 0, 1);
    }

    private static void chance(String name, InkSwaths x, int c, long above, long below) {
        Due.is(name + ": above", x.chance(c, 0), above);
        Due.is(name + ": below", x.chance(c, 1), below);
    }

    // ---- promise 26: tests

    private static void promise26LinesAre0To16() {
        for (int wrong : Due.outside(0, 16)) {
            Twins.bad("tests(1, " + wrong + ", 0)", x -> x.tests(1, wrong, 0));
        }
        InkSwaths x = neverHit();
        Due.is("tests(1, 0, 0)", x.tests(1, 0, 0), 0);
        Due.is("tests(1, 15, 0)", x.tests(1, 15, 0), 73);
        Due.is("tests(1, 16, 0)", x.tests(1, 16, 0), 77);
    }

    private static void promise26WhatIs0And1() {
        for (int wrong : Due.outside(0, 1)) {
            Twins.bad("tests(1, 4, " + wrong + ")", x -> x.tests(1, 4, wrong));
            Twins.bad("tests(1, 0, " + wrong + ")", x -> x.tests(1, 0, wrong));
        }
    }

    /** No SEED is refused; a wrong n is, by any. */
    private static void promise26AnySeed() {
        for (int seed : new int[] {Due.LEAST_INT, -1, 0, 1, Due.GREATEST_INT}) {
            Due.is("tests(" + seed + ", 0, 0)", neverHit().tests(seed, 0, 0), 0);
            Due.is("tests(" + seed + ", 17, 0)", neverHit().tests(seed, 17, 0), -2);
        }
    }

    /** How many DOTS LOTS of 256 have, worked out with long numbers: no line is hit, so all are MISSED. */
    private static void promise26SeedsWrap() {
        int[] lines = {1, 2, 3, 8, 16};
        int[][] due = {
            {0, 0, 5, 6, 28, 63},
            {1, 4, 10, 12, 39, 77},
            {7, 4, 8, 12, 27, 57},
            {123456789, 3, 7, 10, 34, 67},
            {-1, 4, 8, 11, 30, 64},
            {Due.LEAST_INT, 0, 5, 6, 28, 63},
            {Due.GREATEST_INT, 4, 8, 11, 30, 64}};
        InkSwaths x = neverHit();
        for (int[] row : due) {
            for (int i = 0; i < lines.length; i++) {
                Due.is("tests(" + row[0] + ", " + lines[i] + ", 0)", x.tests(row[0], lines[i], 0), row[i + 1]);
            }
        }
    }

    /** The first lot of 1 is 198, of 7 is 108, of -1 is 57: what is MISSED at the right and the left edge tells. */
    private static void promise26LotsAreBitsFromColumn0On() {
        InkSwaths right = Due.head(1, 1, 1, 1, 0);
        InkSwaths left = Due.head(1, 1, 1, 2, -1);
        right.set(7, 3);
        left.set(7, 3);
        int[][] due = {{1, 2, 2}, {7, 2, 1}, {-1, 1, 1}, {123456789, 2, 0}};
        for (int[] row : due) {
            Due.is("columns 5 to 7 by " + row[0], right.tests(row[0], 1, 0), row[1]);
            Due.is("columns 0 to 2 by " + row[0], left.tests(row[0], 1, 0), row[2]);
        }
    }

    /** Line 0 is in pass 0, line 1 in pass 1; the first lot of 0 has no dots, the second has. */
    private static void promise26GutterDrops() {
        InkSwaths x = Due.head(1, 1, 1, 2, 0);
        x.set(6, 1);
        Due.is("no lines", x.tests(0, 0, 1), 2);
        Due.is("a line without dots", x.tests(0, 1, 1), 2);
        Due.is("one without, one with", x.tests(0, 2, 1), 1);
        Due.is("a line with dots", x.tests(1, 1, 1), 1);
        Due.is("two with dots", x.tests(1, 2, 1), 0);
        x.event(0, 0, 0);
        Due.is("dead", x.tests(0, 0, 1), 0);
    }

    /** Other LINES have no dots then, whatever is told of them. */
    private static void promise26OtherLinesHaveNone() {
        InkSwaths x = neverHit();
        Due.fill(x, 255);
        Due.is("no lines", x.tests(1, 0, 0), 0);
        Due.is("one line", x.tests(1, 1, 0), 4);
        Due.is("all lines", x.tests(1, 16, 0), 77);
        Due.is("the picture stays", x.sum(1), 128);
    }

    /** But for the picture all is as it is told, the last setting and the last nozzle, too. */
    private static void promise26TheRestIsAsTold() {
        InkSwaths x = Due.head(8, 1, 1, 1, -7);
        Due.is("nozzle 7 alive", x.tests(1, 1, 0), 0);
        x.set(5, 3);
        Due.is("cap 3", x.tests(1, 1, 0), 1);
        x.event(0, 0, 7);
        Due.is("nozzle 7 dead", x.tests(1, 1, 0), 4);
    }
}
