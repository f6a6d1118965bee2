import java.util.ArrayList;
import java.util.List;
import java.util.function.Consumer;
import java.util.function.ToLongFunction;

/**
 * Pairs of objects that were told the same. A call is refused on one of them alone, and then all that can be
 * asked is asked of both: what is refused has changed nothing if they answer alike.
 */
final class Twins {
    private static final int[] ODD_HEAD = {6, 2, 1, 10, -8, 2, 2, 2, 3};
    private static final int[] GREATEST_HEAD = {8, 5, 12, 12, 0, 8, 6, 3, 3};
    /** No line is hit by it, so that the dots of a line are missed, however many nozzles are dead. */
    private static final int[] HEAD_THAT_HITS_NOTHING = {1, 1, 1, 1, -20, 1, 1, 0, 0};
    private static final List<Consumer<InkSwaths>> STATES = List.of(Twins::nothing, Twins::some, Twins::most);

    private Twins() {
    }

    /** Nothing is told: no dots, no events, nothing seen, all sheets lost, no finding. */
    static void nothing(InkSwaths x) {
    }

    /** Sheets 0, 1, 2 have 3 bytes, 5 shorts, 4 ints, and 3 is lost; the latest finding is 3. */
    static void some(InkSwaths x) {
        for (int line = 0; line < 16; line++) {
            x.line(line, dotsOfSome(line));
        }
        tellHead(x, ODD_HEAD);
        x.event(0, 1, 1);
        x.event(0, 3, 0);
        x.event(1, 6, 1);
        x.seen(3, Integer.bitCount(dotsOfSome(3)));
        x.seen(15, Integer.bitCount(dotsOfSome(15)));
        x.sheet(0, 0, 3);
        x.sheet(1, 1, 5);
        x.sheet(2, 2, 4);
        for (int s = 0; s < 3; s++) {
            for (int i = 0; i < 3; i++) {
                x.put(s, s, i, 10 * s + i - 5);
            }
        }
        x.put(0, 1, 0, 9);
    }

    static int dotsOfSome(int line) {
        return 37 * line & 255;
    }

    /** All dots, the greatest head, 8 events, 8 seen, 60 items in sheets of ints, ints, shorts, bytes; finding 5. */
    static void most(InkSwaths x) {
        Due.fill(x, 255);
        tellHead(x, GREATEST_HEAD);
        for (int i = 0; i < 8; i++) {
            x.event(i == 0 ? 1 : 0, i, 7 - i);
            x.seen(8 + i, 8);
        }
        int[] forms = {2, 2, 1, 0};
        for (int s = 0; s < 4; s++) {
            x.sheet(s, forms[s], 60);
            x.put(s, forms[s], 0, 40 + s);
            x.put(s, forms[s], 59, 100 + s);
        }
        x.sheet(0, 0, -1);
    }

    /** What NOZZLES, SPACE, FEED and so on are, as many as are given. */
    static void tellHead(InkSwaths x, int... head) {
        for (int what = 0; what < head.length; what++) {
            x.set(what, head[what]);
        }
    }

    /** A call that is BAD whatever was told before it. */
    static void bad(String call, ToLongFunction<InkSwaths> asked) {
        alwaysRefused(call, asked, -2);
    }

    /** A call that is BAD, as the least int, whatever was told before it. */
    static void badAsLeastInt(String call, ToLongFunction<InkSwaths> asked) {
        alwaysRefused(call, asked, Integer.MIN_VALUE);
    }

    /** A call that is BAD, as the least long and 2 more, whatever was told before it. */
    static void badAsLeastLong(String call, ToLongFunction<InkSwaths> asked) {
        alwaysRefused(call, asked, Long.MIN_VALUE + 2);
    }

    private static void alwaysRefused(String call, ToLongFunction<InkSwaths> asked, long due) {
        for (Consumer<InkSwaths> state : STATES) {
            refused(call, state, asked, due);
        }
    }

    /** A refusal that is no finding: nothing at all is changed by it. */
    static void refused(String call, Consumer<InkSwaths> told, ToLongFunction<InkSwaths> asked, long due) {
        InkSwaths x = made(told);
        InkSwaths twin = made(told);
        Due.is(call, asked.applyAsLong(x), due);
        Due.is(call + ", then count(8)", x.count(8), twin.count(8));
        likeTwin(call, x, twin);
    }

    /** A refusal that is a finding: nothing is changed by it but count(8). */
    static void finding(String call, Consumer<InkSwaths> told, ToLongFunction<InkSwaths> asked, long due, int number) {
        InkSwaths x = made(told);
        InkSwaths twin = made(told);
        // Another finding ahead, so that this one is seen to be the latest.
        if (number != 5) {
            x.sheet(0, 0, -1);
        }
        Due.is(call, asked.applyAsLong(x), due);
        Due.is(call + ", then count(8)", x.count(8), number);
        likeTwin(call, x, twin);
    }

    /** A question: whatever its answer is, it changes nothing. */
    static void question(String call, ToLongFunction<InkSwaths> asked) {
        for (Consumer<InkSwaths> state : STATES) {
            InkSwaths x = made(state);
            InkSwaths twin = made(state);
            long first = asked.applyAsLong(x);
            Due.is(call + " once more", asked.applyAsLong(x), first);
            Due.is(call + ", then count(8)", x.count(8), twin.count(8));
            likeTwin(call, x, twin);
        }
    }

    /** What is told and told back, whatever was told before it, leaves all as it was. */
    static void asBefore(String calls, Consumer<InkSwaths> thereAndBack) {
        for (Consumer<InkSwaths> state : STATES) {
            asBefore(calls, state, thereAndBack);
        }
    }

    /** What is told and told back leaves all as it was, count(8), too: nothing else was changed by the way. */
    static void asBefore(String calls, Consumer<InkSwaths> told, Consumer<InkSwaths> thereAndBack) {
        InkSwaths x = made(told);
        InkSwaths twin = made(told);
        thereAndBack.accept(x);
        Due.is(calls + ", then count(8)", x.count(8), twin.count(8));
        likeTwin(calls, x, twin);
    }

    /** A new object that was told so. */
    static InkSwaths made(Consumer<InkSwaths> told) {
        InkSwaths x = new InkSwaths();
        told.accept(x);
        return x;
    }

    private static void likeTwin(String call, InkSwaths x, InkSwaths twin) {
        List<Long> answers = usedUp(x);
        List<Long> due = usedUp(twin);
        Due.is(call + ", then how much there is to tell", answers.size(), due.size());
        for (int i = 0; i < Math.min(answers.size(), due.size()); i++) {
            if (!answers.get(i).equals(due.get(i))) {
                Due.is(call + ", then answer " + i + " of what is asked", answers.get(i), due.get(i));
            }
        }
    }

    /** All that can be found out of an object; the calls leave it useless, and are not more than it is promised for. */
    private static List<Long> usedUp(InkSwaths x) {
        List<Long> answers = new ArrayList<>();
        for (int what = 0; what <= 7; what++) {
            answers.add((long) x.count(what));
        }
        answers.add(x.digest());
        for (int s = 0; s < 4; s++) {
            readSheet(x, s, answers);
        }
        // Not ahead of all reading: a loss that changed another sheet would show on neither of the two.
        for (int s = 0; s < 4; s++) {
            answers.add((long) x.lose(s));
        }
        for (int what = 0; what < 9; what++) {
            answers.add((long) x.set(what, HEAD_THAT_HITS_NOTHING[what]));
        }
        answers.add((long) x.never());
        answers.add((long) x.was(1));
        useUpLines(x, answers);
        answers.add((long) x.forget());
        useEventsOfNozzle0(x, answers);
        useUpEvents(x, answers);
        return answers;
    }

    private static void readSheet(InkSwaths x, int s, List<Long> answers) {
        for (int form = 0; form < 3; form++) {
            for (int i = 0; i < 61; i++) {
                int item = x.get(s, form, i);
                answers.add((long) item);
                if (item == Integer.MIN_VALUE) {
                    break;
                }
            }
            answers.add((long) x.count(8));
        }
    }

    /** What was seen comes out so until a line of it has no dots; from the last line on, as it was told last. */
    private static void useUpLines(InkSwaths x, List<Long> answers) {
        for (int line = 15; line >= 0; line--) {
            answers.add((long) x.was(0));
            answers.add((long) x.line(line, 0));
        }
    }

    /** Nozzle 0 is at line p in pass p: what is told of it there shows, the event told last among the rest. */
    private static void useEventsOfNozzle0(InkSwaths x, List<Long> answers) {
        x.set(3, 12);
        x.set(4, 0);
        x.set(5, 8);
        x.line(6, 255);
        x.line(7, 255);
        x.seen(6, 0);
        x.seen(7, 8);
        answers.add((long) x.never());
        answers.add(x.chance(5, 0));
        answers.add(x.chance(5, 1));
        x.line(6, 0);
        x.line(7, 0);
    }

    /** With no dots and a rest of 1 a nozzle makes as many drops as there are passes in which it is alive. */
    private static void useUpEvents(InkSwaths x, List<Long> answers) {
        x.set(0, 8);
        for (int i = 0; i < 9; i++) {
            for (int nozzle = 0; nozzle < 8; nozzle++) {
                answers.add((long) x.drops(nozzle));
            }
            answers.add((long) x.back());
        }
    }
}
