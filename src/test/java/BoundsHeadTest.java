/** The boundary cases of promises 1 to 6: the picture, the head, events. */
public final class BoundsHeadTest {
    private static final int[] AT_FIRST = {4, 3, 4, 8, -9, 8, 3, 0, 0};

    public static void main(String[] args) throws ReflectiveOperationException {
        Due.each(BoundsHeadTest.class, 1, 6);
    }

    // ---- promise 1: a new object

    private static void promise1ConstantsOfTheFace() {
        Due.is("NONE", InkSwaths.NONE, -1);
        Due.is("BAD", InkSwaths.BAD, -2);
        Due.is("NOT", InkSwaths.NOT, -3);
        Due.is("FULL", InkSwaths.FULL, -4);
    }

    private static void promise1NoDotsAtFirst() {
        InkSwaths x = new InkSwaths();
        Due.is("count(0)", x.count(0), 0);
        for (int line = 0; line < 16; line++) {
            Due.is("missed(" + line + ")", x.missed(line), 0);
            Due.is("line(" + line + ", 0)", x.line(line, 0), 0);
        }
    }

    private static void promise1HeadAtFirst() {
        InkSwaths x = new InkSwaths();
        for (int what = 0; what < 9; what++) {
            Due.is("set(" + what + ", ..)", x.set(what, AT_FIRST[what]), AT_FIRST[what]);
        }
        Due.is("the last pass and nozzle", x.pass(7, 3, 2), 1);
        Due.is("no pass 8", x.pass(8, 3, 2), -2);
        Due.is("no nozzle 4", x.pass(7, 4, 2), -2);
    }

    private static void promise1NoEventsAtFirst() {
        InkSwaths x = new InkSwaths();
        Due.is("count(2)", x.count(2), 0);
        Due.is("back()", x.back(), -3);
        x.set(0, 8);
        x.set(3, 12);
        for (int nozzle = 0; nozzle < 8; nozzle++) {
            alive(x, nozzle, 0b111111111111);
        }
    }

    private static void promise1NothingSeenAtFirst() {
        InkSwaths x = new InkSwaths();
        Due.is("count(7)", x.count(7), 0);
        Due.is("forget()", x.forget(), 0);
    }

    private static void promise1AllSheetsLostAtFirst() {
        InkSwaths x = new InkSwaths();
        Due.is("count(8) before any finding", x.count(8), 0);
        for (int s = 0; s < 4; s++) {
            Due.is("lose(" + s + ")", x.lose(s), Due.NULL);
        }
    }

    private static void promise1ObjectsAreApart() {
        InkSwaths ahead = new InkSwaths();
        long digest = ahead.digest();
        Twins.most(new InkSwaths());
        InkSwaths behind = new InkSwaths();
        Due.is("digest of one made ahead", ahead.digest(), digest);
        Due.is("digest of one made behind", behind.digest(), digest);
        Due.is("count(8) of one made ahead", ahead.count(8), 0);
        Due.is("count(8) of one made behind", behind.count(8), 0);
        Due.is("a sheet of one made behind", behind.lose(0), Due.NULL);
    }

    /** An object may be asked 512 times; the last answer is as right as the first. */
    private static void promise1For512Calls() {
        InkSwaths x = new InkSwaths();
        for (int call = 0; call < 510; call++) {
            Due.is("call " + call, x.line(call % 16, call / 2), call < 16 ? 0 : (call - 16) / 2);
        }
        InkSwaths young = new InkSwaths();
        for (int call = 494; call < 510; call++) {
            young.line(call % 16, call / 2);
        }
        Due.is("call 510", x.digest(), young.digest());
        Due.is("call 511", x.line(13, 0), 254);
    }

    // ---- promise 2: line

    private static void promise2LinesAre0To15() {
        for (int wrong : Due.outside(0, 15)) {
            Twins.bad("line(" + wrong + ", 1)", x -> x.line(wrong, 1));
        }
        InkSwaths x = new InkSwaths();
        Due.is("line(0, 1)", x.line(0, 1), 0);
        Due.is("line(15, 2)", x.line(15, 2), 0);
        Due.is("count(0)", x.count(0), 2);
        Due.is("line(0, 0)", x.line(0, 0), 1);
        Due.is("line(15, 0)", x.line(15, 0), 2);
    }

    private static void promise2DotsAre0To255() {
        for (int wrong : Due.outside(0, 255)) {
            Twins.bad("line(0, " + wrong + ")", x -> x.line(0, wrong));
            Twins.bad("line(15, " + wrong + ")", x -> x.line(15, wrong));
        }
        InkSwaths x = new InkSwaths();
        Due.is("line(4, 255)", x.line(4, 255), 0);
        Due.is("count(0) of all in one line", x.count(0), 8);
        Due.is("line(4, 0)", x.line(4, 0), 255);
        Due.is("count(0) of none", x.count(0), 0);
        Due.is("line(4, 254)", x.line(4, 254), 0);
        Due.is("line(4, 1)", x.line(4, 1), 254);
    }

    private static void promise2LineAndDotsBothWrong() {
        Twins.bad("line(-1, 256)", x -> x.line(-1, 256));
        Twins.bad("line(16, -1)", x -> x.line(16, -1));
    }

    private static void promise2SameDotsOnceMore() {
        InkSwaths x = new InkSwaths();
        x.line(7, 129);
        Due.is("line(7, 129) once more", x.line(7, 129), 129);
        Due.is("count(0)", x.count(0), 2);
    }

    private static void promise2Bit0IsColumn0() {
        InkSwaths x = Due.picture(1, 128);
        Due.is("bit 0 in column 0", x.by(0, 0, 1), 0);
        Due.is("bit 0 in column 1", x.by(0, 1, 1), -1);
        Due.is("bit 0 in column 7", x.by(0, 7, 1), -1);
        Due.is("bit 7 in column 0", x.by(1, 0, 1), -1);
        Due.is("bit 7 in column 6", x.by(1, 6, 1), -1);
        Due.is("bit 7 in column 7", x.by(1, 7, 1), 0);
    }

    // ---- promise 3: set

    private static void promise3NozzlesAre1To8() {
        range(0, 1, 8);
    }

    private static void promise3SpaceIs1To5() {
        range(1, 1, 5);
    }

    private static void promise3FeedIs1To12() {
        range(2, 1, 12);
    }

    private static void promise3PassesAre1To12() {
        range(3, 1, 12);
    }

    private static void promise3StartIsMinus20To0() {
        range(4, -20, 0);
    }

    private static void promise3CapIs1To8() {
        range(5, 1, 8);
    }

    private static void promise3RestIs1To6() {
        range(6, 1, 6);
    }

    private static void promise3EdgeIs0To3() {
        range(7, 0, 3);
    }

    private static void promise3MaskIs0To3() {
        range(8, 0, 3);
    }

    private static void range(int what, int low, int high) {
        InkSwaths x = new InkSwaths();
        Due.is("the least", x.set(what, low), AT_FIRST[what]);
        Due.is("the greatest", x.set(what, high), low);
        Due.is("as at first", x.set(what, AT_FIRST[what]), high);
        Due.is("all as at first", x.digest(), new InkSwaths().digest());
        for (int wrong : Due.outside(low, high)) {
            Twins.badAsLeastInt("set(" + what + ", " + wrong + ")", y -> y.set(what, wrong));
        }
    }

    private static void promise3WhatIs0To8() {
        for (int wrong : Due.outside(0, 8)) {
            Twins.badAsLeastInt("set(" + wrong + ", 1)", x -> x.set(wrong, 1));
            Twins.badAsLeastInt("set(" + wrong + ", 99)", x -> x.set(wrong, 99));
        }
    }

    /** A START may have been -2 or -1: so BAD is the least int here. */
    private static void promise3AnswersThatLookLikeRefusals() {
        InkSwaths x = new InkSwaths();
        x.set(4, -1);
        Due.is("it was -1", x.set(4, -2), -1);
        Due.is("it was -2", x.set(4, -3), -2);
        Due.is("it was -3", x.set(4, -4), -3);
        Due.is("it was -4", x.set(4, -11), -4);
        Due.is("it was -11", x.set(4, 1), Due.LEAST_INT);
        Due.is("it stays -11", x.set(4, 0), -11);
    }

    // ---- promise 4: event

    private static void promise4KindsAre0And1() {
        for (int wrong : Due.outside(0, 1)) {
            Twins.bad("event(" + wrong + ", 0, 0)", x -> x.event(wrong, 0, 0));
        }
        InkSwaths x = new InkSwaths();
        Due.is("event(0, 3, 1)", x.event(0, 3, 1), 1);
        alive(x, 1, 0b00000111);
        Due.is("event(1, 5, 1)", x.event(1, 5, 1), 2);
        alive(x, 1, 0b11100111);
    }

    private static void promise4PassesAre0To11() {
        for (int wrong : Due.outside(0, 11)) {
            Twins.bad("event(0, " + wrong + ", 0)", x -> x.event(0, wrong, 0));
        }
        InkSwaths x = new InkSwaths();
        x.set(3, 12);
        Due.is("event(0, 11, 0)", x.event(0, 11, 0), 1);
        alive(x, 0, 0b011111111111);
        Due.is("event(0, 0, 1)", x.event(0, 0, 1), 2);
        alive(x, 1, 0);
        Due.is("event(1, 11, 1)", x.event(1, 11, 1), 3);
        alive(x, 1, 0b100000000000);
    }

    private static void promise4NozzlesAre0To7() {
        for (int wrong : Due.outside(0, 7)) {
            Twins.bad("event(1, 11, " + wrong + ")", x -> x.event(1, 11, wrong));
        }
        InkSwaths x = new InkSwaths();
        x.set(0, 8);
        Due.is("event(0, 4, 0)", x.event(0, 4, 0), 1);
        Due.is("event(0, 2, 7)", x.event(0, 2, 7), 2);
        alive(x, 0, 0b00001111);
        alive(x, 1, 0b11111111);
        alive(x, 6, 0b11111111);
        alive(x, 7, 0b00000011);
    }

    /** An EVENT may be of a PASS and a NOZZLE that the head does not have now. */
    private static void promise4EventsBeyondTheHead() {
        InkSwaths x = Due.head(1, 1, 1, 1, 0);
        x.line(0, 255);
        Due.is("event(0, 11, 0)", x.event(0, 11, 0), 1);
        Due.is("event(0, 0, 7)", x.event(0, 0, 7), 2);
        Due.is("missed(0)", x.missed(0), 0);
        x.set(0, 8);
        x.set(3, 12);
        Due.is("alive in pass 10", x.pass(10, 0, 2), 1);
        Due.is("dead in pass 11", x.pass(11, 0, 2), 0);
        Due.is("nozzle 7 in pass 0", x.pass(0, 7, 2), 0);
    }

    private static void promise4EightAtMost() {
        InkSwaths x = new InkSwaths();
        for (int i = 1; i <= 8; i++) {
            Due.is("event " + i, x.event(0, i, 0), i);
        }
        Due.is("a ninth", x.event(0, 0, 0), -4);
        Due.is("count(2)", x.count(2), 8);
        Due.is("the ninth is not", x.pass(0, 0, 2), 1);
        Due.is("the first is", x.pass(1, 0, 2), 0);
        Due.is("back()", x.back(), 7);
        Due.is("an eighth anew", x.event(0, 0, 0), 8);
        Due.is("it is", x.pass(0, 0, 2), 0);
        Due.is("a ninth anew", x.event(1, 0, 0), -4);
    }

    private static void promise4FullChangesNothing() {
        Twins.refused("event(0, 0, 0)", Twins::most, x -> x.event(0, 0, 0), -4);
        Twins.refused("event(1, 11, 7)", Twins::most, x -> x.event(1, 11, 7), -4);
    }

    private static void promise4BadAheadOfFull() {
        Twins.refused("event(2, 0, 0)", Twins::most, x -> x.event(2, 0, 0), -2);
        Twins.refused("event(0, 12, 0)", Twins::most, x -> x.event(0, 12, 0), -2);
        Twins.refused("event(0, 0, 8)", Twins::most, x -> x.event(0, 0, 8), -2);
        Twins.refused("event(-1, -1, -1)", Twins::most, x -> x.event(-1, -1, -1), -2);
    }

    /** The greatest PASS that is not greater tells, not what was told last. */
    private static void promise4TheGreatestPassTells() {
        InkSwaths x = new InkSwaths();
        x.event(1, 5, 2);
        x.event(0, 4, 2);
        alive(x, 2, 0b11101111);
        x.event(0, 6, 2);
        alive(x, 2, 0b00101111);
        x.event(1, 0, 2);
        alive(x, 2, 0b00101111);
    }

    private static void promise4OfLikePassesTheLastTold() {
        InkSwaths x = new InkSwaths();
        x.event(0, 3, 2);
        x.event(1, 3, 2);
        alive(x, 2, 0b11111111);
        x.event(0, 3, 2);
        alive(x, 2, 0b00000111);
        x.event(1, 0, 2);
        x.event(0, 0, 2);
        alive(x, 2, 0);
    }

    private static void promise4WithoutAnyItIsAlive() {
        InkSwaths x = new InkSwaths();
        x.event(0, 0, 1);
        x.event(0, 0, 3);
        alive(x, 0, 0b11111111);
        alive(x, 2, 0b11111111);
        x.event(1, 6, 2);
        alive(x, 2, 0b11111111);
    }

    /** What passes a nozzle is alive in; of as many passes as the head has. */
    private static void alive(InkSwaths x, int nozzle, int passes) {
        for (int pass = 0; pass < 12 && x.pass(pass, nozzle, 2) != -2; pass++) {
            Due.is("alive: nozzle " + nozzle + " in pass " + pass, x.pass(pass, nozzle, 2), passes >> pass & 1);
        }
    }

    // ---- promise 5: back

    private static void promise5NotWithoutEvents() {
        Twins.refused("back()", Twins::nothing, InkSwaths::back, -3);
        Twins.refused("back() behind all", x -> {
            Twins.some(x);
            x.back();
            x.back();
            x.back();
        }, InkSwaths::back, -3);
    }

    private static void promise5FromEightToNone() {
        InkSwaths x = new InkSwaths();
        for (int i = 0; i < 8; i++) {
            x.event(0, 0, i % 4);
        }
        for (int left = 7; left >= 0; left--) {
            Due.is("back()", x.back(), left);
            Due.is("count(2)", x.count(2), left);
        }
        Due.is("back() of none", x.back(), -3);
        Due.is("count(2) of none", x.count(2), 0);
        Due.is("all as at first", x.digest(), new InkSwaths().digest());
    }

    /** It is the EVENT told last that is undone, not the one of the greatest PASS. */
    private static void promise5TheLastToldIsUndone() {
        InkSwaths x = new InkSwaths();
        x.event(0, 6, 0);
        x.event(0, 2, 1);
        Due.is("back()", x.back(), 1);
        alive(x, 0, 0b00111111);
        alive(x, 1, 0b11111111);
        Due.is("back()", x.back(), 0);
        alive(x, 0, 0b11111111);
    }

    // ---- promise 6: read

    private static void promise6SheetsAre0To3() {
        for (int wrong : Due.outside(0, 3)) {
            Twins.bad("read(" + wrong + ")", x -> x.read(wrong));
        }
        InkSwaths x = new InkSwaths();
        x.sheet(0, 2, 1);
        x.sheet(3, 2, 1);
        x.put(0, 2, 0, 5);
        x.put(3, 2, 0, 6);
        Due.is("read(0)", x.read(0), 1);
        Due.is("what is read", x.line(0, 0), 5);
        Due.is("read(3)", x.read(3), 1);
        Due.is("what is read", x.line(0, 0), 6);
    }

    private static void promise6NullOfALostSheet() {
        for (int lost = 0; lost < 4; lost++) {
            int s = lost;
            Twins.finding("read(" + s + ")", Twins::nothing, x -> x.read(s), Due.NULL, 1);
        }
        Twins.finding("read(3)", Twins::some, x -> x.read(3), Due.NULL, 1);
        Twins.finding("read(2) when it is lost again", x -> {
            Twins.most(x);
            x.lose(2);
        }, x -> x.read(2), Due.NULL, 1);
    }

    private static void promise6NoItems() {
        InkSwaths x = Due.picture(7, 8, 9);
        x.sheet(1, 2, 0);
        long before = x.digest();
        Due.is("read(1)", x.read(1), 0);
        Due.is("nothing is changed", x.digest(), before);
        Due.is("line 0 stays", x.line(0, 0), 7);
        Due.is("it is no finding", x.count(8), 0);
    }

    private static void promise6AsManyAsThereAreLines() {
        for (int items : new int[] {1, 15, 16, 17, 60}) {
            InkSwaths x = new InkSwaths();
            Due.fill(x, 3);
            x.sheet(0, 1, items);
            for (int i = 0; i < items; i++) {
                x.put(0, 1, i, 100 + i);
            }
            int read = Math.min(items, 16);
            Due.is("read of " + items, x.read(0), read);
            for (int line = 0; line < 16; line++) {
                Due.is("line " + line + " by " + items, x.line(line, 0), line < read ? 100 + line : 3);
            }
        }
    }

    private static void promise6AllItemsAre0() {
        InkSwaths x = new InkSwaths();
        Due.fill(x, 255);
        x.sheet(0, 0, 60);
        Due.is("read(0)", x.read(0), 16);
        Due.is("no dots are left", x.count(0), 0);
    }

    private static void promise6ItemsMayBe0To255() {
        endsAt(2, 0, 255, 256);
        endsAt(2, 0, 0, -1);
        endsAt(2, 0, 255, Due.LEAST_INT);
        endsAt(2, 0, 255, Due.GREATEST_INT);
        endsAt(1, 0, 255, 256);
        endsAt(1, 0, 255, -1);
        endsAt(1, 0, 255, -32768);
        endsAt(1, 0, 255, 32767);
    }

    /** A byte is at most 127; what was put as 128 to 255 is below 0. */
    private static void promise6ItemsOfBytes() {
        endsAt(0, 0, 127, -128);
        endsAt(0, 0, 127, 128);
        endsAt(0, 0, 0, 255);
        InkSwaths x = new InkSwaths();
        x.sheet(0, 0, 1);
        x.put(0, 0, 0, 256 + 9);
        Due.is("read of the lowest bits", x.read(0), 1);
        Due.is("line 0", x.line(0, 0), 9);
    }

    private static void promise6TheFirstTheLastAndOneBehind() {
        endsAt(2, 0, 1, 256);
        endsAt(2, 14, 255, 256);
        endsAt(2, 15, 255, 256);
    }

    /** Items ahead are 9, item i may be, the one behind may not, and the one behind that may. */
    private static void endsAt(int form, int i, int mayBe, int mayNotBe) {
        InkSwaths x = new InkSwaths();
        Due.fill(x, 3);
        x.sheet(0, form, 18);
        for (int ahead = 0; ahead < i; ahead++) {
            x.put(0, form, ahead, 9);
        }
        x.put(0, form, i, mayBe);
        x.put(0, form, i + 1, mayNotBe);
        x.put(0, form, i + 2, 5);
        String call = "read of " + mayBe + ", then " + mayNotBe;
        Due.is(call, x.read(0), i + 1);
        for (int line = 0; line < 16; line++) {
            Due.is(call + ": line " + line, x.line(line, 0), line < i ? 9 : line == i ? mayBe : 3);
        }
        Due.is(call + ": no finding", x.count(8), 0);
    }

    private static void promise6TheFirstMayNotBe() {
        InkSwaths x = Due.picture(7, 8);
        x.sheet(0, 2, 2);
        x.put(0, 2, 0, 256);
        x.put(0, 2, 1, 1);
        Due.is("read(0)", x.read(0), 0);
        Due.is("line 0 stays", x.line(0, 0), 7);
        Due.is("line 1 stays", x.line(1, 0), 8);
        Due.is("no finding", x.count(8), 0);
    }

    private static void promise6WhatIsReadIsPrinted() {
        InkSwaths x = new InkSwaths();
        x.sheet(0, 2, 16);
        x.put(0, 2, 0, 255);
        x.put(0, 2, 15, 1);
        Due.is("read(0)", x.read(0), 16);
        Due.is("line 0 is printed", x.pass(0, 3, 0), 8);
        Due.is("line 15 is done", x.done(15), 6);
        x.put(0, 2, 0, 0);
        x.put(0, 2, 15, 0);
        Due.is("read(0) anew", x.read(0), 16);
        Due.is("all as at first", x.digest(), new InkSwaths().digest());
    }

    private static void promise6TheSheetStays() {
        InkSwaths x = new InkSwaths();
        x.sheet(2, 1, 3);
        x.put(2, 1, 0, 4);
        x.put(2, 1, 1, 300);
        Due.is("read(2)", x.read(2), 1);
        Due.is("item 0", x.get(2, 1, 0), 4);
        Due.is("item 1", x.get(2, 1, 1), 300);
        Due.is("read(2) once more", x.read(2), 1);
        Due.is("lose(2)", x.lose(2), 3);
    }
}
