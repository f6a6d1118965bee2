/** The boundary cases of promises 18 and 19: plans. */
public final class BoundsPlanTest {
    public static void main(String[] args) throws ReflectiveOperationException {
        Due.each(BoundsPlanTest.class, 18, 19);
    }

    /** One pass, in which nozzles 0 to 7 are at lines 0 to 7; each is told to be dead, in that order. */
    private static InkSwaths eightDead() {
        InkSwaths x = Due.head(8, 1, 1, 1, 0);
        for (int nozzle = 0; nozzle < 8; nozzle++) {
            x.event(0, 0, nozzle);
        }
        return x;
    }

    // ---- promise 18: better

    private static void promise18ByIs0To2() {
        for (int wrong : Due.outside(0, 2)) {
            Twins.badAsLeastInt("better(" + wrong + ", 0)", x -> x.better(wrong, 0));
            Twins.badAsLeastInt("better(" + wrong + ", 1)", x -> x.better(wrong, 1));
        }
    }

    private static void promise18WhatIs0And1() {
        for (int wrong : Due.outside(0, 1)) {
            Twins.badAsLeastInt("better(0, " + wrong + ")", x -> x.better(0, wrong));
            Twins.badAsLeastInt("better(2, " + wrong + ")", x -> x.better(2, wrong));
        }
    }

    /** Of like ones the least: with no dots, and when all are missed by each. */
    private static void promise18AllAlike() {
        InkSwaths x = new InkSwaths();
        better("no dots, by feed", x, 0, 1, 0);
        better("no dots, by mask", x, 1, 0, 0);
        better("no dots, by start", x, 2, -20, 0);
        Due.fill(x, 255);
        for (int nozzle = 0; nozzle < 4; nozzle++) {
            x.event(0, 0, nozzle);
        }
        better("all missed, by feed", x, 0, 1, 128);
        better("all missed, by mask", x, 1, 0, 128);
        better("all missed, by start", x, 2, -20, 128);
    }

    private static void promise18FeedsAre1To12() {
        InkSwaths x = Due.head(1, 1, 6, 2, 0);
        for (int feed = 1; feed <= 12; feed++) {
            x.line(feed, 1);
            better("line " + feed, x, 0, feed, 0);
            x.line(feed, 0);
        }
        x.line(13, 1);
        better("line 13 is too far", x, 0, 1, 1);
    }

    /** The only DOTS are in lines 0 and 12, which one START alone hits both. */
    private static void promise18TheGreatestStart() {
        InkSwaths x = Due.head(1, 1, 12, 2, -5);
        x.line(0, 1);
        x.line(12, 1);
        better("from 0", x, 2, 0, 0);
        x.line(0, 0);
        x.line(12, 0);
        x.line(1, 1);
        x.line(13, 1);
        better("from 1 is too far", x, 2, -11, 1);
    }

    private static void promise18TheLeastStart() {
        InkSwaths x = Due.head(1, 1, 10, 3, -5);
        x.line(0, 1);
        better("from -20", x, 2, -20, 0);
        x.set(2, 11);
        better("from -22 is too far", x, 2, -11, 0);
    }

    /** A START of -1 to -4 is an answer, not a refusal. */
    private static void promise18AnswersThatLookLikeRefusals() {
        for (int feed = 1; feed <= 4; feed++) {
            InkSwaths x = Due.head(1, 1, feed, 2, 0);
            x.line(0, 1);
            better("line 0 by feed " + feed, x, 2, -feed, 0);
        }
    }

    /** By the greatest MASK alone all are printed as they want. */
    private static void promise18TheGreatestMask() {
        InkSwaths x = Due.head(2, 1, 1, 2, -1);
        x.set(7, 3);
        x.line(0, 0b11000011);
        better("columns 0, 1 want hit 0, 6, 7 want hit 1", x, 1, 3, 0);
    }

    /** Fewest MISSED comes ahead of most as wanted. */
    private static void promise18FewestMissedFirst() {
        InkSwaths x = Due.head(2, 3, 1, 2, 0);
        x.event(0, 0, 1);
        x.set(8, 1);
        x.line(2, 1);
        x.line(3, 0b01010101);
        // By feed 2 nozzle 0 is at line 2, by feed 3 at line 3, where all want nozzle 1, which is dead.
        better("feed 2 misses 4, feed 3 misses 1 and prints 4 not as wanted", x, 0, 3, 1);
    }

    /** Of those by which as few are MISSED the one by which most are printed as they want, not the least. */
    private static void promise18MostAsWanted() {
        InkSwaths x = Due.head(2, 1, 1, 3, 0);
        x.event(0, 0, 1);
        x.line(2, 0b00000011);
        // By feed 1 line 2 is hit by nozzle 1, which is dead, and by nozzle 0; by feed 2 by nozzle 0 alone.
        better("feed 1 prints one as wanted, feed 2 both", x, 0, 2, 0);
    }

    /** But for the one in question all is as it is told, the last setting and the last nozzle, too. */
    private static void promise18TheRestIsAsTold() {
        InkSwaths x = Due.head(2, 1, 1, 3, 0);
        x.event(0, 0, 1);
        x.line(2, 0b00000010);
        better("mask 0: by feed 1 it wants hit 1", x, 0, 1, 0);
        x.set(8, 3);
        better("mask 3: by feed 1 it wants hit 0, which is dead", x, 0, 2, 0);
        InkSwaths y = Due.head(8, 1, 1, 1, -7);
        y.line(0, 1);
        better("nozzle 7 alive", y, 0, 1, 0);
        y.event(0, 0, 7);
        better("nozzle 7 dead", y, 0, 1, 1);
    }

    private static void better(String name, InkSwaths x, int by, int which, int missed) {
        Due.is(name + ": which", x.better(by, 0), which);
        Due.is(name + ": how many are missed", x.better(by, 1), missed);
    }

    // ---- promise 19: spare

    private static void promise19NumbersAreNone0And1() {
        for (int wrong : Due.outside(-1, 1)) {
            Twins.bad("spare(" + wrong + ")", x -> x.spare(wrong));
        }
    }

    private static void promise19NoEvents() {
        InkSwaths x = Due.head(1, 1, 1, 1, 0);
        spare("no dots", x, 0, -1, -1);
        x.line(0, 255);
        spare("none is missed", x, 0, -1, -1);
        x.line(1, 1);
        spare("one is missed", x, -1, -1, -1);
    }

    private static void promise19NoneIsMissed() {
        InkSwaths x = eightDead();
        spare("8 events, no dots", x, 0, -1, -1);
        InkSwaths y = Due.head(1, 1, 1, 1, 0);
        y.line(0, 255);
        y.event(0, 1, 0);
        spare("an event that does not matter", y, 0, -1, -1);
    }

    private static void promise19TheFirstAndTheLastEvent() {
        InkSwaths x = eightDead();
        x.line(0, 1);
        spare("event 0", x, 1, 0, -1);
        x.line(0, 0);
        x.line(7, 1);
        spare("event 7", x, 1, 7, -1);
    }

    private static void promise19TwoEvents() {
        InkSwaths x = eightDead();
        x.line(6, 1);
        x.line(7, 1);
        spare("events 6, 7", x, 2, 6, 7);
        x.line(6, 0);
        x.line(0, 1);
        spare("events 0, 7", x, 2, 0, 7);
        x.line(7, 0);
        x.line(1, 1);
        spare("events 0, 1", x, 2, 0, 1);
    }

    private static void promise19NotMoreThanTwo() {
        InkSwaths x = eightDead();
        x.line(0, 1);
        x.line(4, 1);
        x.line(7, 1);
        spare("three would be", x, -1, -1, -1);
        x.line(4, 0);
        x.line(8, 1);
        spare("line 8 is hit by none", x, -1, -1, -1);
    }

    /** Line 1 is hit by nozzle 1 in pass 0, by nozzle 0 in pass 1: either may be alive. */
    private static void promise19OfLikeOnesTheLeastRow() {
        InkSwaths x = Due.head(2, 1, 1, 2, 0);
        x.line(1, 255);
        x.event(0, 0, 0);
        x.event(0, 0, 1);
        spare("0 or 1", x, 1, 0, -1);
        x.event(0, 0, 1);
        x.event(0, 0, 0);
        spare("0, 3 or 1, 2", x, 2, 0, 3);
        x.event(0, 0, 0);
        spare("1, 2 or 0, 3, 4", x, 2, 1, 2);
        x.event(0, 0, 1);
        spare("1, 2, 5 or 0, 3, 4", x, -1, -1, -1);
    }

    /** One EVENT is fewer than two, even if the row of two is less. */
    private static void promise19OneAheadOfTwo() {
        InkSwaths x = Due.head(2, 1, 1, 2, 0);
        x.line(1, 255);
        x.event(0, 0, 0);
        x.event(0, 0, 0);
        x.event(0, 0, 1);
        spare("2, or 0, 1", x, 1, 2, -1);
    }

    private static void spare(String name, InkSwaths x, int many, int first, int second) {
        Due.is(name + ": how many", x.spare(-1), many);
        Due.is(name + ": the first", x.spare(0), first);
        Due.is(name + ": the second", x.spare(1), second);
    }
}
