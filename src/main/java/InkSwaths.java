import java.util.Arrays;

/** An ink head that goes over a picture pass by pass; ../shared/DOC.md says what the words mean. */
public final class InkSwaths {
    public static final int NONE = -1, BAD = -2, NOT = -3, FULL = -4;

    private static final int LINES = 16, COLUMNS = 8, ALL_DOTS = 255;
    private static final int MOST_PASSES = 12, MOST_NOZZLES = 8, ALL_PASSES = 4095;
    private static final int MOST_HITS = 12;
    private static final int MOST_EVENTS = 8, MOST_SEEN = 8;
    private static final int SHEETS = 4, FORMS = 3, MOST_ITEMS = 60;

    private static final int NOZZLES = 0, SPACE = 1, FEED = 2, PASSES = 3, START = 4;
    private static final int CAP = 5, REST = 6, EDGE = 7, MASK = 8, SETTINGS = 9;
    private static final int[] LOWEST = {1, 1, 1, 1, -20, 1, 1, 0, 0};
    private static final int[] HIGHEST = {8, 5, 12, 12, 0, 8, 6, 3, 3};
    private static final int[] AT_FIRST = {4, 3, 4, 8, -9, 8, 3, 0, 0};
    private static final int[] BETTER_BY = {FEED, MASK, START};

    private static final int DEAD = 0;
    private static final int SIXTEENTHS = 16, HALVINGS = 4;

    private static final int NULL = 1, INDEX = 2, CAST = 3, STORE = 4, SIZE = 5;
    private static final int FINDINGS_BELOW = -10;
    private static final int BYTES = 0, SHORTS = 1;

    private static final int BAD_INT = Integer.MIN_VALUE;
    private static final long BAD_LONG = Long.MIN_VALUE - BAD;

    private final Plan told = new Plan();
    private final Plan trial = new Plan();
    private final Events events = new Events();
    private final int[] living = new int[MOST_NOZZLES];
    private final int[] seenLine = new int[MOST_SEEN];
    private final int[] seenMany = new int[MOST_SEEN];
    private int seenSize = 0;
    private final int[] tally = new int[COLUMNS + 1];
    private final long[] safeBySize = new long[MOST_EVENTS + 1];
    private final Sheet[] sheets = {new Sheet(), new Sheet(), new Sheet(), new Sheet()};
    private int latestFinding = 0;

    public InkSwaths() {
        told.print();
    }

    // ---- the picture, the head, events

    public int line(int line, int dots) {
        if (!isLine(line) || !within(dots, 0, ALL_DOTS)) {
            return BAD;
        }
        int before = told.picture[line];
        told.picture[line] = dots;
        told.print();
        return before;
    }

    public int set(int what, int v) {
        if (!within(what, 0, SETTINGS - 1) || !within(v, LOWEST[what], HIGHEST[what])) {
            return BAD_INT;
        }
        int before = told.head[what];
        told.head[what] = v;
        told.print();
        return before;
    }

    public int event(int kind, int pass, int nozzle) {
        if (!within(kind, 0, 1) || !within(pass, 0, MOST_PASSES - 1) || !within(nozzle, 0, MOST_NOZZLES - 1)) {
            return BAD;
        }
        if (events.size >= MOST_EVENTS) {
            return FULL;
        }
        events.add(kind, pass, nozzle);
        events.livingBy(events.all(), told.living);
        told.print();
        return events.size;
    }

    public int back() {
        if (events.size <= 0) {
            return NOT;
        }
        events.size--;
        events.livingBy(events.all(), told.living);
        told.print();
        return events.size;
    }

    public int read(int s) {
        if (!isSheet(s)) {
            return BAD;
        }
        Sheet from = sheets[s];
        if (from.lost) {
            return finding(NULL);
        }
        int end = Math.min(from.size, LINES);
        int many = 0;
        while (many < end && within(from.items[many], 0, ALL_DOTS)) {
            told.picture[many] = from.items[many];
            many++;
        }
        told.print();
        return many;
    }

    // ---- what is hit, printed

    public int hits(int line) {
        return isLine(line) ? told.hitCount[line] : BAD;
    }

    public int hit(int line, int i, int what) {
        if (!isLine(line) || !within(i, 0, MOST_HITS - 1) || !within(what, 0, 1)) {
            return BAD;
        }
        if (i >= told.hitCount[line]) {
            return NONE;
        }
        return what == 0 ? told.passOf(line, i) : told.nozzleOf(line, i);
    }

    public int by(int line, int column, int what) {
        if (!isLine(line) || !within(column, 0, COLUMNS - 1) || !within(what, 0, 1)) {
            return BAD;
        }
        return what == 0 ? told.printingHit[line * COLUMNS + column] : told.wantedHit(line, column);
    }

    public int missed(int line) {
        return isLine(line) ? told.missedDots[line] : BAD;
    }

    public int done(int line) {
        return isLine(line) ? told.lastPass[line] : BAD;
    }

    public int pass(int pass, int nozzle, int what) {
        if (!within(pass, 0, told.head[PASSES] - 1) || !isNozzle(nozzle) || !within(what, 0, 2)) {
            return BAD;
        }
        switch (what) {
            case 0:
                return told.dotsPrinted[pass * MOST_NOZZLES + nozzle];
            case 1:
                return told.gutter[nozzle] >> pass & 1;
            default:
                return told.living[nozzle] >> pass & 1;
        }
    }

    public int sum(int what) {
        if (!within(what, 0, 3)) {
            return BAD;
        }
        switch (what) {
            case 0:
                return told.allDots();
            case 1:
                return told.allMissed();
            case 2:
                return told.strayed;
            default:
                return told.gutterDrops();
        }
    }

    public int least() {
        int many = 0;
        for (int line = 0; line < LINES; line++) {
            many += told.fewestMissed(line, told.living, told.head[CAP]);
        }
        return many;
    }

    public int drops(int nozzle) {
        return isNozzle(nozzle) ? told.dropsOf(nozzle) : BAD;
    }

    public int even(int what) {
        if (!within(what, 0, 2)) {
            return BAD;
        }
        int fewest = MOST_HITS;
        int most = 0;
        int single = 0;
        for (int many : told.hitCount) {
            fewest = Math.min(fewest, many);
            most = Math.max(most, many);
            single += many == 1 ? 1 : 0;
        }
        return what == 0 ? fewest : what == 1 ? most : single;
    }

    public int open() {
        int most = 0;
        for (int pass = 0; pass < told.head[PASSES]; pass++) {
            most = Math.max(most, told.openLines(pass));
        }
        return most;
    }

    // ---- plans

    public int better(int by, int what) {
        if (!within(by, 0, BETTER_BY.length - 1) || !within(what, 0, 1)) {
            return BAD_INT;
        }
        int setting = BETTER_BY[by];
        int best = NONE;
        int bestMissed = Integer.MAX_VALUE;
        int bestStrayed = Integer.MAX_VALUE;
        trial.takeInputs(told);
        for (int v = LOWEST[setting]; v <= HIGHEST[setting]; v++) {
            trial.head[setting] = v;
            trial.print();
            int missed = trial.allMissed();
            // With as many missed, as many are printed: the fewer stray, the more are printed as wanted.
            if (missed < bestMissed || missed == bestMissed && trial.strayed < bestStrayed) {
                best = v;
                bestMissed = missed;
                bestStrayed = trial.strayed;
            }
        }
        return what == 0 ? best : bestMissed;
    }

    public int spare(int i) {
        if (!within(i, NONE, 1)) {
            return BAD;
        }
        int spared = sparedEvents();
        if (spared == NONE) {
            return NONE;
        }
        return i == NONE ? Integer.bitCount(spared) : numberOfBit(spared, i);
    }

    // ---- seen, chance, tests

    public int seen(int line, int many) {
        if (!isLine(line) || !within(many, 0, COLUMNS)) {
            return BAD;
        }
        if (seenSize >= MOST_SEEN) {
            return FULL;
        }
        seenLine[seenSize] = line;
        seenMany[seenSize] = many;
        seenSize++;
        return seenSize;
    }

    public int forget() {
        int before = seenSize;
        seenSize = 0;
        return before;
    }

    public int never() {
        int fitting = 0;
        for (int i = 0; i < events.size; i++) {
            events.livingBy(events.all() & ~(1 << i), living);
            if (fitsSeen(told.head[CAP])) {
                fitting |= 1 << i;
            }
        }
        return fitting;
    }

    public int was(int what) {
        if (!within(what, 0, 1)) {
            return BAD;
        }
        return what == 0 ? fittingDeads() : fittingCaps();
    }

    public int ask() {
        int deads = fittingDeads();
        int best = 0;
        int bestGreatest = Integer.MAX_VALUE;
        for (int line = 0; line < LINES; line++) {
            int greatest = greatestGroup(line, deads);
            if (greatest < bestGreatest) {
                best = line;
                bestGreatest = greatest;
            }
        }
        return best;
    }

    public long chance(int c, int what) {
        if (!within(c, 0, SIXTEENTHS) || !within(what, 0, 1)) {
            return BAD_LONG;
        }
        countSafe();
        long above = 0;
        for (int many = 0; many <= events.size; many++) {
            above += safeBySize[many] * power(c, many) * power(SIXTEENTHS - c, events.size - many);
        }
        long below = power(SIXTEENTHS, events.size);
        // What is below is a power of 2: nothing but halving can shorten the fraction, and 0 comes to 0 by 1.
        for (int i = 0; i < HALVINGS * events.size && (above & 1) == 0; i++) {
            above >>= 1;
            below >>= 1;
        }
        return what == 0 ? above : below;
    }

    public int tests(int seed, int n, int what) {
        if (!within(n, 0, LINES) || !within(what, 0, 1)) {
            return BAD;
        }
        trial.takeInputs(told);
        int lots = seed;
        for (int line = 0; line < LINES; line++) {
            lots = 1103515245 * lots + 12345;
            trial.picture[line] = line < n ? (lots >>> 16) % (ALL_DOTS + 1) : 0;
        }
        trial.print();
        return what == 0 ? trial.allMissed() : trial.gutterDrops();
    }

    // ---- sheets

    public int sheet(int s, int form, int n) {
        if (!isSheet(s) || !isForm(form) || n > MOST_ITEMS) {
            return BAD;
        }
        if (n < 0) {
            return finding(SIZE);
        }
        sheets[s].begin(form, n);
        return n;
    }

    public int lose(int s) {
        if (!isSheet(s)) {
            return BAD;
        }
        if (sheets[s].lost) {
            return finding(NULL);
        }
        sheets[s].lost = true;
        return sheets[s].size;
    }

    public int put(int s, int form, int i, int v) {
        if (!isSheet(s) || !isForm(form)) {
            return BAD;
        }
        int fault = sheets[s].faultOf(form, i);
        if (fault != 0) {
            return finding(fault);
        }
        sheets[s].fill(i, v);
        return 1;
    }

    public int get(int s, int form, int i) {
        if (!isSheet(s) || !isForm(form)) {
            return BAD_INT;
        }
        int fault = sheets[s].faultOf(form, i);
        if (fault != 0) {
            finding(fault);
            return BAD_INT;
        }
        return sheets[s].items[i];
    }

    public int copy(int s, int i, int t, int j, int n) {
        if (!isSheet(s) || !isSheet(t)) {
            return BAD;
        }
        Sheet from = sheets[s];
        Sheet to = sheets[t];
        if (from.lost || to.lost) {
            return finding(NULL);
        }
        if (from.form != to.form) {
            return finding(STORE);
        }
        if (!from.hasPart(i, n) || !to.hasPart(j, n)) {
            return finding(INDEX);
        }
        System.arraycopy(from.items, i, to.items, j, n);
        return 1;
    }

    public int write(int s) {
        if (!isSheet(s)) {
            return BAD;
        }
        Sheet to = sheets[s];
        if (to.lost) {
            return finding(NULL);
        }
        int many = Math.min(to.size, LINES);
        for (int line = 0; line < many; line++) {
            to.fill(line, told.missedDots[line]);
        }
        return many;
    }

    public int count(int what) {
        switch (what) {
            case 0:
                return sum(0);
            case 1:
                return told.allHits();
            case 2:
                return events.size;
            case 3:
                return sum(1);
            case 4:
                return least();
            case 5:
                return sum(3);
            case 6:
                return open();
            case 7:
                return seenSize;
            case 8:
                return latestFinding;
            default:
                return BAD;
        }
    }

    public long digest() {
        long h = 17;
        for (int what = 0; what <= 7; what++) {
            h = mixed(h, count(what));
        }
        for (int line = 0; line < LINES; line++) {
            h = mixedLine(h, line);
        }
        h = mixedHead(h);
        for (int what = 0; what <= 3; what++) {
            h = mixed(h, sum(what));
        }
        for (int what = 0; what <= 2; what++) {
            h = mixed(h, even(what));
        }
        for (int by = 0; by <= 2; by++) {
            h = mixed(mixed(h, better(by, 0)), better(by, 1));
        }
        h = mixed(mixed(h, spare(NONE)), spare(0));
        h = mixed(h, never());
        h = mixed(mixed(h, was(0)), was(1));
        h = mixed(h, ask());
        h = mixed(mixed(h, chance(5, 0)), chance(5, 1));
        return mixed(mixed(h, tests(7, 12, 0)), tests(7, 12, 1));
    }

    private long mixedLine(long before, int line) {
        long h = mixed(before, hits(line));
        for (int i = 0; i <= 2; i++) {
            h = mixed(mixed(h, hit(line, i, 0)), hit(line, i, 1));
        }
        h = mixed(mixed(h, by(line, 0, 0)), by(line, 0, 1));
        h = mixed(mixed(h, by(line, 3, 0)), by(line, 3, 1));
        h = mixed(mixed(h, by(line, 7, 0)), by(line, 7, 1));
        return mixed(mixed(h, missed(line)), done(line));
    }

    private long mixedHead(long before) {
        long h = before;
        for (int pass = 0; pass < told.head[PASSES]; pass++) {
            for (int nozzle = 0; nozzle < told.head[NOZZLES]; nozzle++) {
                for (int what = 0; what <= 2; what++) {
                    h = mixed(h, pass(pass, nozzle, what));
                }
            }
        }
        for (int nozzle = 0; nozzle < told.head[NOZZLES]; nozzle++) {
            h = mixed(h, drops(nozzle));
        }
        return h;
    }

    private static long mixed(long h, long v) {
        return 31 * h + v;
    }

    private static boolean within(int v, int low, int high) {
        return v >= low && v <= high;
    }

    private static boolean isLine(int line) {
        return within(line, 0, LINES - 1);
    }

    private boolean isNozzle(int nozzle) {
        return within(nozzle, 0, told.head[NOZZLES] - 1);
    }

    private static boolean isSheet(int s) {
        return within(s, 0, SHEETS - 1);
    }

    private static boolean isForm(int form) {
        return within(form, 0, FORMS - 1);
    }

    private int finding(int number) {
        latestFinding = number;
        return FINDINGS_BELOW - number;
    }

    /** Whether no dot is missed when just these events (as bits) are. */
    private boolean isSafe(int chosen) {
        events.livingBy(chosen, living);
        for (int line = 0; line < LINES; line++) {
            if (told.fewestMissed(line, living, told.head[CAP]) > 0) {
                return false;
            }
        }
        return true;
    }

    /** The events, as bits, that had better not be; NONE. */
    private int sparedEvents() {
        int all = events.all();
        if (isSafe(all)) {
            return 0;
        }
        for (int i = 0; i < events.size; i++) {
            if (isSafe(all & ~(1 << i))) {
                return 1 << i;
            }
        }
        for (int i = 0; i < events.size; i++) {
            for (int j = i + 1; j < events.size; j++) {
                int pair = 1 << i | 1 << j;
                if (isSafe(all & ~pair)) {
                    return pair;
                }
            }
        }
        return NONE;
    }

    /** The number of the i-th bit that is set; NONE. */
    private static int numberOfBit(int bits, int i) {
        int ahead = 0;
        for (int number = 0; number < MOST_EVENTS; number++) {
            if ((bits >> number & 1) == 1) {
                if (ahead == i) {
                    return number;
                }
                ahead++;
            }
        }
        return NONE;
    }

    /** Counts, by how many events are, the choices of events by which no dot is missed. */
    private void countSafe() {
        Arrays.fill(safeBySize, 0);
        for (int chosen = 0; chosen <= events.all(); chosen++) {
            if (isSafe(chosen)) {
                safeBySize[Integer.bitCount(chosen)]++;
            }
        }
    }

    private static long power(long base, int exponent) {
        long product = 1;
        for (int i = 0; i < exponent; i++) {
            product *= base;
        }
        return product;
    }

    /** Whether all that was seen comes out so, by the nozzles that are living now. */
    private boolean fitsSeen(int cap) {
        for (int i = 0; i < seenSize; i++) {
            if (told.fewestMissed(seenLine[i], living, cap) != seenMany[i]) {
                return false;
            }
        }
        return true;
    }

    private void letDieAlone(int nozzle) {
        Arrays.fill(living, ALL_PASSES);
        living[nozzle] = 0;
    }

    private int fittingDeads() {
        int fitting = 0;
        for (int nozzle = 0; nozzle < told.head[NOZZLES]; nozzle++) {
            letDieAlone(nozzle);
            if (fitsSeen(told.head[CAP])) {
                fitting |= 1 << nozzle;
            }
        }
        return fitting;
    }

    private int fittingCaps() {
        int fitting = 0;
        events.livingBy(events.all(), living);
        for (int cap = LOWEST[CAP]; cap <= HIGHEST[CAP]; cap++) {
            if (fitsSeen(cap)) {
                fitting |= 1 << cap;
            }
        }
        return fitting;
    }

    /** How many of these dead nozzles, at most, would have the same number of dots of a line missed. */
    private int greatestGroup(int line, int deads) {
        int greatest = 0;
        Arrays.fill(tally, 0);
        for (int nozzle = 0; nozzle < told.head[NOZZLES]; nozzle++) {
            if ((deads >> nozzle & 1) == 1) {
                letDieAlone(nozzle);
                int many = told.fewestMissed(line, living, told.head[CAP]);
                tally[many]++;
                greatest = Math.max(greatest, tally[many]);
            }
        }
        return greatest;
    }

    /** Nozzles that are told to be dead or cleaned. */
    private static final class Events {
        private final int[] kinds = new int[MOST_EVENTS];
        private final int[] passes = new int[MOST_EVENTS];
        private final int[] nozzles = new int[MOST_EVENTS];
        private int size = 0;

        private void add(int kind, int pass, int nozzle) {
            kinds[size] = kind;
            passes[size] = pass;
            nozzles[size] = nozzle;
            size++;
        }

        private int all() {
            return (1 << size) - 1;
        }

        /** Tells of each nozzle the passes, as bits, in which it is alive by just the chosen events. */
        private void livingBy(int chosen, int[] living) {
            Arrays.fill(living, ALL_PASSES);
            // Later passes go over earlier ones, and of one pass what was told last goes over the rest.
            for (int pass = 0; pass < MOST_PASSES; pass++) {
                for (int i = 0; i < size; i++) {
                    if (passes[i] == pass && (chosen >> i & 1) == 1) {
                        apply(i, living);
                    }
                }
            }
        }

        private void apply(int i, int[] living) {
            int fromThenOn = ALL_PASSES << passes[i] & ALL_PASSES;
            if (kinds[i] == DEAD) {
                living[nozzles[i]] &= ~fromThenOn;
            } else {
                living[nozzles[i]] |= fromThenOn;
            }
        }
    }

    /** What is told of a picture and a head, and what comes of it. */
    private static final class Plan {
        private final int[] picture = new int[LINES];
        private final int[] head = AT_FIRST.clone();
        private final int[] living = new int[MOST_NOZZLES];

        private final int[] hitCount = new int[LINES];
        /** Of each hit its place in dotsPrinted: one number for its pass and its nozzle. */
        private final int[] hitPlace = new int[LINES * MOST_HITS];
        private final int[] printingHit = new int[LINES * COLUMNS];
        private final int[] missedDots = new int[LINES];
        private final int[] firstPass = new int[LINES];
        private final int[] lastPass = new int[LINES];
        private final int[] dotsPrinted = new int[MOST_PASSES * MOST_NOZZLES];
        private final int[] gutter = new int[MOST_NOZZLES];
        private int strayed = 0;

        /** Of the line that is being printed: the columns, as bits, that each hit can print. */
        private final int[] canColumns = new int[MOST_HITS];
        /** Of the line that is being printed: how many hits can print each column. */
        private final int[] canCount = new int[COLUMNS];

        private Plan() {
            Arrays.fill(living, ALL_PASSES);
        }

        private void takeInputs(Plan other) {
            System.arraycopy(other.picture, 0, picture, 0, LINES);
            System.arraycopy(other.head, 0, head, 0, SETTINGS);
            System.arraycopy(other.living, 0, living, 0, MOST_NOZZLES);
        }

        private void print() {
            layHits();
            Arrays.fill(printingHit, NONE);
            Arrays.fill(missedDots, 0);
            Arrays.fill(firstPass, NONE);
            Arrays.fill(lastPass, NONE);
            Arrays.fill(dotsPrinted, 0);
            strayed = 0;
            // A hit is of one line alone, so lines may be printed one behind another.
            for (int line = 0; line < LINES; line++) {
                printLine(line);
            }
            for (int nozzle = 0; nozzle < MOST_NOZZLES; nozzle++) {
                gutter[nozzle] = nozzle < head[NOZZLES] ? gutterPasses(nozzle) : 0;
            }
        }

        private void layHits() {
            Arrays.fill(hitCount, 0);
            for (int pass = 0; pass < head[PASSES]; pass++) {
                for (int nozzle = 0; nozzle < head[NOZZLES]; nozzle++) {
                    int line = head[START] + pass * head[FEED] + nozzle * head[SPACE];
                    if (isLine(line) && hitCount[line] < MOST_HITS) {
                        hitPlace[line * MOST_HITS + hitCount[line]] = pass * MOST_NOZZLES + nozzle;
                        hitCount[line]++;
                    }
                }
            }
        }

        private void printLine(int line) {
            if (picture[line] == 0) {
                return;
            }
            lookAtHits(line);
            for (int cans = 0; cans <= hitCount[line]; cans++) {
                for (int column = 0; column < COLUMNS; column++) {
                    if (canCount[column] == cans && isDot(line, column)) {
                        printDot(line, column);
                    }
                }
            }
        }

        private void lookAtHits(int line) {
            Arrays.fill(canCount, 0);
            for (int hit = 0; hit < hitCount[line]; hit++) {
                int pass = passOf(line, hit);
                canColumns[hit] = isLiving(living, nozzleOf(line, hit), pass) ? columnsReached(pass) : 0;
                for (int column = 0; column < COLUMNS; column++) {
                    canCount[column] += canColumns[hit] >> column & 1;
                }
            }
        }

        private void printDot(int line, int column) {
            int wanted = wantedHit(line, column);
            int hit = firstHitThatMay(line, column, wanted);
            if (hit == NONE) {
                missedDots[line] |= 1 << column;
                return;
            }
            int pass = passOf(line, hit);
            printingHit[line * COLUMNS + column] = hit;
            dotsPrinted[hitPlace[line * MOST_HITS + hit]]++;
            strayed += hit == wanted ? 0 : 1;
            firstPass[line] = firstPass[line] == NONE ? pass : Math.min(firstPass[line], pass);
            lastPass[line] = Math.max(lastPass[line], pass);
        }

        private int firstHitThatMay(int line, int column, int wanted) {
            int many = hitCount[line];
            for (int i = 0; i < many; i++) {
                int hit = wanted + i < many ? wanted + i : wanted + i - many;
                boolean can = (canColumns[hit] >> column & 1) == 1;
                if (can && dotsPrinted[hitPlace[line * MOST_HITS + hit]] < head[CAP]) {
                    return hit;
                }
            }
            return NONE;
        }

        private int wantedHit(int line, int column) {
            int many = hitCount[line];
            return many > 0 && isDot(line, column) ? maskNumber(line, column) % many : NONE;
        }

        private int maskNumber(int line, int column) {
            switch (head[MASK]) {
                case 0:
                    return line + column;
                case 1:
                    return column;
                case 2:
                    return line;
                default:
                    return (column >> 1) + line;
            }
        }

        private boolean isDot(int line, int column) {
            return (picture[line] >> column & 1) == 1;
        }

        private static boolean isLiving(int[] alive, int nozzle, int pass) {
            return (alive[nozzle] >> pass & 1) == 1;
        }

        private static boolean goesRight(int pass) {
            return (pass & 1) == 0;
        }

        /** The columns, as bits, that the head reaches in a pass. */
        private int columnsReached(int pass) {
            return goesRight(pass) ? ALL_DOTS >> head[EDGE] : ALL_DOTS << head[EDGE] & ALL_DOTS;
        }

        private int passOf(int line, int hit) {
            return hitPlace[line * MOST_HITS + hit] / MOST_NOZZLES;
        }

        private int nozzleOf(int line, int hit) {
            return hitPlace[line * MOST_HITS + hit] % MOST_NOZZLES;
        }

        /** The passes, as bits, in which a nozzle makes a gutter drop. */
        private int gutterPasses(int nozzle) {
            int made = 0;
            int idle = 0;
            for (int pass = 0; pass < head[PASSES]; pass++) {
                boolean rests = isLiving(living, nozzle, pass) && dotsPrinted[pass * MOST_NOZZLES + nozzle] == 0;
                idle = rests ? idle + 1 : 0;
                if (idle == head[REST]) {
                    made |= 1 << pass;
                    idle = 0;
                }
            }
            return made;
        }

        /**
         * How many dots of a line are missed at least, by these nozzles alive and this cap. Just so many are
         * missed when they are printed, too: a dot in the middle can be printed by more hits than one at an edge,
         * so it is looked at later and takes no room that one at an edge needs; if as many hits can print both,
         * they are the same hits. So questions for numbers alone need no printing.
         */
        private int fewestMissed(int line, int[] alive, int cap) {
            int dots = picture[line];
            if (dots == 0) {
                return 0;
            }
            int right = 0;
            int left = 0;
            for (int hit = 0; hit < hitCount[line]; hit++) {
                int pass = passOf(line, hit);
                int room = isLiving(alive, nozzleOf(line, hit), pass) ? cap : 0;
                right += goesRight(pass) ? room : 0;
                left += goesRight(pass) ? 0 : room;
            }
            int first = Integer.bitCount(dots & ((1 << head[EDGE]) - 1));
            int last = Integer.bitCount(dots >> (COLUMNS - head[EDGE]));
            int middle = Integer.bitCount(dots) - first - last;
            int firstMissed = Math.max(0, first - right);
            int lastMissed = Math.max(0, last - left);
            int roomLeft = Math.max(0, right - first) + Math.max(0, left - last);
            return firstMissed + lastMissed + Math.max(0, middle - roomLeft);
        }

        private int openLines(int pass) {
            int many = 0;
            for (int line = 0; line < LINES; line++) {
                boolean begun = firstPass[line] != NONE && firstPass[line] <= pass;
                many += begun && lastPass[line] >= pass ? 1 : 0;
            }
            return many;
        }

        private int dropsOf(int nozzle) {
            int many = Integer.bitCount(gutter[nozzle]);
            for (int pass = 0; pass < head[PASSES]; pass++) {
                many += dotsPrinted[pass * MOST_NOZZLES + nozzle];
            }
            return many;
        }

        private int allHits() {
            int many = 0;
            for (int hits : hitCount) {
                many += hits;
            }
            return many;
        }

        private int allDots() {
            return bitsOf(picture);
        }

        private int allMissed() {
            return bitsOf(missedDots);
        }

        private int gutterDrops() {
            return bitsOf(gutter);
        }

        private static int bitsOf(int[] rows) {
            int many = 0;
            for (int row : rows) {
                many += Integer.bitCount(row);
            }
            return many;
        }
    }

    /** A row of items, held as ints of which no more than the form's bits are ever kept. */
    private static final class Sheet {
        private final int[] items = new int[MOST_ITEMS];
        private int form = BYTES;
        private int size = 0;
        private boolean lost = true;

        private void begin(int newForm, int newSize) {
            Arrays.fill(items, 0);
            form = newForm;
            size = newSize;
            lost = false;
        }

        /** The number of the finding that item i, treated as of a form, would be; 0: none. */
        private int faultOf(int treatedAs, int i) {
            if (lost) {
                return NULL;
            }
            if (form != treatedAs) {
                return CAST;
            }
            return i < 0 || i >= size ? INDEX : 0;
        }

        private boolean hasPart(int from, int many) {
            return from >= 0 && many >= 0 && many <= size && from <= size - many;
        }

        private void fill(int i, int v) {
            items[i] = form == BYTES ? (byte) v : form == SHORTS ? (short) v : v;
        }
    }
}
