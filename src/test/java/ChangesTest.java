/** What each call changes: just what the document says of it. Questions change nothing. */
public final class ChangesTest {
    private static final int[] LOW = {1, 1, 1, 1, -20, 1, 1, 0, 0};
    private static final int[] HIGH = {8, 5, 12, 12, 0, 8, 6, 3, 3};

    public static void main(String[] args) throws ReflectiveOperationException {
        Due.each(ChangesTest.class, 2, 34);
    }

    // ---- the picture, the head, events

    private static void promise2TheLineAlone() {
        for (int number : new int[] {0, 5, 15}) {
            Twins.asBefore("line " + number + " there and back", x -> x.line(number, x.line(number, 90)));
        }
    }

    /** EVENTS of a NOZZLE or a PASS that the head has no more stay told, and count when it has it again. */
    private static void promise3TheSettingAlone() {
        for (int number = 0; number < 9; number++) {
            int what = number;
            Twins.asBefore("set " + what + " to the least and back", x -> x.set(what, x.set(what, LOW[what])));
            Twins.asBefore("set " + what + " to the greatest and back", x -> x.set(what, x.set(what, HIGH[what])));
        }
    }

    private static void promise4TheEventAlone() {
        for (int kind = 0; kind < 2; kind++) {
            int number = kind;
            Twins.asBefore("event and back of nothing", Twins::nothing, x -> eventAndBack(x, number));
            Twins.asBefore("event and back of some", Twins::some, x -> eventAndBack(x, number));
        }
    }

    private static void eventAndBack(InkSwaths x, int kind) {
        x.event(kind, 2, 1);
        x.event(kind, 0, 0);
        x.back();
        x.back();
    }

    private static void promise5TheLastEventAlone() {
        Twins.asBefore("back and event of some", Twins::some, x -> {
            x.back();
            x.event(1, 6, 1);
        });
        Twins.asBefore("back and event of most", Twins::most, x -> {
            x.back();
            x.back();
            x.event(0, 6, 1);
            x.event(0, 7, 0);
        });
    }

    private static void promise6TheLinesAlone() {
        Twins.asBefore("read of a new sheet", Twins::nothing, x -> {
            x.sheet(0, 2, 16);
            x.put(0, 2, 0, 255);
            x.put(0, 2, 15, 255);
            x.read(0);
            x.line(0, 0);
            x.line(15, 0);
            x.lose(0);
        });
        Twins.asBefore("read of five", Twins::some, x -> {
            x.read(1);
            for (int line = 0; line < 5; line++) {
                x.line(line, Twins.dotsOfSome(line));
            }
        });
        Twins.asBefore("read of sixteen", Twins::most, x -> {
            x.read(3);
            Due.fill(x, 255);
        });
    }

    // ---- what is hit, printed

    private static void promise7Question() {
        Twins.question("hits(0)", x -> x.hits(0));
    }

    private static void promise8Question() {
        Twins.question("hit(0, 0, 0)", x -> x.hit(0, 0, 0));
        Twins.question("hit(0, 0, 1)", x -> x.hit(0, 0, 1));
    }

    private static void promise9Question() {
        Twins.question("by(0, 0, 0)", x -> x.by(0, 0, 0));
        Twins.question("by(0, 0, 1)", x -> x.by(0, 0, 1));
    }

    private static void promise10Question() {
        Twins.question("missed(0)", x -> x.missed(0));
    }

    private static void promise11Question() {
        Twins.question("done(0)", x -> x.done(0));
    }

    private static void promise12Question() {
        for (int number = 0; number < 3; number++) {
            int what = number;
            Twins.question("pass(0, 0, " + what + ")", x -> x.pass(0, 0, what));
        }
    }

    private static void promise13Question() {
        for (int number = 0; number < 4; number++) {
            int what = number;
            Twins.question("sum(" + what + ")", x -> x.sum(what));
        }
    }

    private static void promise14Question() {
        Twins.question("least()", InkSwaths::least);
    }

    private static void promise15Question() {
        Twins.question("drops(0)", x -> x.drops(0));
    }

    private static void promise16Question() {
        for (int number = 0; number < 3; number++) {
            int what = number;
            Twins.question("even(" + what + ")", x -> x.even(what));
        }
    }

    private static void promise17Question() {
        Twins.question("open()", InkSwaths::open);
    }

    // ---- plans

    private static void promise18Question() {
        for (int setting = 0; setting < 3; setting++) {
            int by = setting;
            Twins.question("better(" + by + ", 0)", x -> x.better(by, 0));
            Twins.question("better(" + by + ", 1)", x -> x.better(by, 1));
        }
    }

    private static void promise19Question() {
        for (int i = -1; i <= 1; i++) {
            int number = i;
            Twins.question("spare(" + number + ")", x -> x.spare(number));
        }
    }

    // ---- seen, chance, tests

    private static void promise20SeenAlone() {
        Twins.asBefore("seen and forget of nothing", Twins::nothing, x -> {
            x.seen(0, 0);
            x.seen(15, 8);
            x.forget();
        });
    }

    private static void promise21SeenAlone() {
        Twins.asBefore("forget and seen of some", Twins::some, x -> {
            x.forget();
            x.seen(3, Integer.bitCount(Twins.dotsOfSome(3)));
            x.seen(15, Integer.bitCount(Twins.dotsOfSome(15)));
        });
        Twins.asBefore("forget and seen of most", Twins::most, x -> {
            x.forget();
            for (int i = 0; i < 8; i++) {
                x.seen(8 + i, 8);
            }
        });
    }

    private static void promise22Question() {
        Twins.question("never()", InkSwaths::never);
    }

    private static void promise23Question() {
        Twins.question("was(0)", x -> x.was(0));
        Twins.question("was(1)", x -> x.was(1));
    }

    private static void promise24Question() {
        Twins.question("ask()", InkSwaths::ask);
    }

    private static void promise25Question() {
        Twins.question("chance(5, 0)", x -> x.chance(5, 0));
        Twins.question("chance(16, 1)", x -> x.chance(16, 1));
    }

    private static void promise26Question() {
        Twins.question("tests(7, 12, 0)", x -> x.tests(7, 12, 0));
        Twins.question("tests(7, 16, 1)", x -> x.tests(7, 16, 1));
    }

    // ---- sheets

    private static void promise27TheSheetAlone() {
        for (int number = 0; number < 4; number++) {
            int s = number;
            Twins.asBefore("sheet " + s + " made and lost", Twins::nothing, x -> {
                x.sheet(s, s % 3, 60);
                x.lose(s);
            });
        }
        Twins.asBefore("sheet 3 made and lost", Twins::some, x -> {
            x.sheet(3, 1, 7);
            x.lose(3);
        });
        for (int number = 0; number < 4; number++) {
            int s = number;
            Twins.asBefore("sheet " + s + " of another form and back", Twins::most, x -> {
                x.sheet(s, 1, 5);
                sheetOfMost(x, s);
            });
        }
    }

    private static void sheetOfMost(InkSwaths x, int s) {
        int form = new int[] {2, 2, 1, 0}[s];
        x.sheet(s, form, 60);
        x.put(s, form, 0, 40 + s);
        x.put(s, form, 59, 100 + s);
    }

    private static void promise28TheSheetAlone() {
        Twins.asBefore("sheet 2 lost and made", Twins::some, x -> {
            x.lose(2);
            x.sheet(2, 2, 4);
            itemsOfSheet2OfSome(x);
        });
        for (int number = 0; number < 4; number++) {
            int s = number;
            Twins.asBefore("sheet " + s + " lost and made", Twins::most, x -> {
                x.lose(s);
                sheetOfMost(x, s);
            });
        }
    }

    private static void itemsOfSheet2OfSome(InkSwaths x) {
        for (int i = 0; i < 3; i++) {
            x.put(2, 2, i, 15 + i);
        }
        x.put(2, 2, 3, 0);
    }

    private static void promise29TheItemAlone() {
        Twins.asBefore("put there and back", Twins::some, x -> {
            x.put(1, 1, 2, -77);
            x.put(1, 1, 2, 7);
        });
        Twins.asBefore("put there and back at the ends", Twins::most, x -> {
            x.put(3, 0, 0, 5);
            x.put(0, 2, 59, 5);
            x.put(3, 0, 0, 43);
            x.put(0, 2, 59, 100);
        });
    }

    private static void promise30Question() {
        Twins.asBefore("get", Twins::some, x -> {
            Due.is("get(0, 0, 2)", x.get(0, 0, 2), -3);
            Due.is("get(2, 2, 0)", x.get(2, 2, 0), 15);
        });
        Twins.asBefore("get at the ends", Twins::most, x -> {
            Due.is("get(3, 0, 0)", x.get(3, 0, 0), 43);
            Due.is("get(0, 2, 59)", x.get(0, 2, 59), 100);
        });
    }

    private static void promise31TheItemsAlone() {
        Twins.asBefore("copy within and back", Twins::some, x -> {
            x.copy(2, 0, 2, 1, 3);
            itemsOfSheet2OfSome(x);
        });
        Twins.asBefore("copy of all and back", Twins::most, x -> {
            x.copy(0, 0, 1, 0, 60);
            x.put(1, 2, 0, 41);
            x.put(1, 2, 59, 101);
        });
        Twins.asBefore("copy of one and back", Twins::most, x -> {
            x.copy(1, 0, 0, 30, 1);
            x.put(0, 2, 30, 0);
        });
        Twins.asBefore("copy of none", Twins::most, x -> x.copy(0, 0, 1, 0, 0));
    }

    private static void promise32TheItemsAlone() {
        Twins.asBefore("write and back", Twins::some, x -> {
            x.write(2);
            itemsOfSheet2OfSome(x);
        });
        Twins.asBefore("write of sixteen and back", Twins::most, x -> {
            x.write(1);
            for (int i = 0; i < 16; i++) {
                x.put(1, 2, i, i == 0 ? 41 : 0);
            }
        });
    }

    private static void promise33Question() {
        for (int number = 0; number <= 8; number++) {
            int what = number;
            Twins.question("count(" + what + ")", x -> x.count(what));
        }
    }

    /** It asks for what may be NONE, and leaves no FINDING behind. */
    private static void promise34Question() {
        Twins.question("digest()", InkSwaths::digest);
    }
}
