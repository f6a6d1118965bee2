import java.math.BigInteger;
import java.util.ArrayList;
import java.util.Comparator;
import java.util.List;
import java.util.function.ToIntFunction;

/**
 * The document told once more, as slowly and as near to its words as can be: nothing is kept that can be
 * found anew, dots are sorted over the whole picture, LEAST is a matching, and every "had it not been" is printed.
 */
final class Model {
    record Event(int kind, int pass, int nozzle) { }
    record Seen(int line, int many) { }
    record Hit(int pass, int nozzle) { }
    record Dot(int line, int column) { }

    private static final int[] LOW = {1, 1, 1, 1, -20, 1, 1, 0, 0};
    private static final int[] HIGH = {8, 5, 12, 12, 0, 8, 6, 3, 3};

    /** What printing is done with. */
    static final class Job {
        int[] picture = new int[16];
        int[] head = {4, 3, 4, 8, -9, 8, 3, 0, 0};
        List<Event> events = new ArrayList<>();

        Job twin() {
            Job twin = new Job();
            twin.picture = picture.clone();
            twin.head = head.clone();
            twin.events = new ArrayList<>(events);
            return twin;
        }

        List<Hit> hits(int line) {
            List<Hit> hits = new ArrayList<>();
            for (int p = 0; p < head[3]; p++) {
                for (int j = 0; j < head[0]; j++) {
                    if (head[4] + p * head[2] + j * head[1] == line) {
                        hits.add(new Hit(p, j));
                    }
                }
            }
            return hits;
        }

        boolean alive(int pass, int nozzle) {
            Event latest = null;
            for (Event e : events) {
                if (e.nozzle == nozzle && e.pass <= pass && (latest == null || e.pass >= latest.pass)) {
                    latest = e;
                }
            }
            return latest == null || latest.kind == 1;
        }

        boolean can(Hit hit, int column) {
            boolean reached = hit.pass % 2 == 0 ? column <= 7 - head[7] : column >= head[7];
            return reached && alive(hit.pass, hit.nozzle);
        }

        int cans(Dot dot) {
            return (int) hits(dot.line).stream().filter(h -> can(h, dot.column)).count();
        }

        boolean isDot(int line, int column) {
            return (picture[line] & 1 << column) != 0;
        }

        int wants(int line, int column) {
            int h = hits(line).size();
            if (h == 0 || !isDot(line, column)) {
                return -1;
            }
            int[] numbers = {line + column, column, line, column / 2 + line};
            return numbers[head[8]] % h;
        }
    }

    /** What comes of a job. */
    static final class Print {
        final Job job;
        final int[][] by = new int[16][8];
        final int[][] dots = new int[12][8];
        final boolean[][] gutter = new boolean[12][8];

        Print(Job job) {
            this.job = job;
            List<Dot> order = new ArrayList<>();
            for (int line = 0; line < 16; line++) {
                for (int column = 0; column < 8; column++) {
                    by[line][column] = -1;
                    if (job.isDot(line, column)) {
                        order.add(new Dot(line, column));
                    }
                }
            }
            order.sort(Comparator.comparingInt((ToIntFunction<Dot>) job::cans)
                .thenComparingInt(Dot::line).thenComparingInt(Dot::column));
            order.forEach(this::print);
            for (int nozzle = 0; nozzle < job.head[0]; nozzle++) {
                drip(nozzle);
            }
        }

        private void print(Dot dot) {
            List<Hit> hits = job.hits(dot.line);
            int wanted = job.wants(dot.line, dot.column);
            for (int i = 0; i < hits.size(); i++) {
                int number = (wanted + i) % hits.size();
                Hit hit = hits.get(number);
                if (job.can(hit, dot.column) && dots[hit.pass][hit.nozzle] < job.head[5]) {
                    by[dot.line][dot.column] = number;
                    dots[hit.pass][hit.nozzle]++;
                    return;
                }
            }
        }

        private void drip(int nozzle) {
            int since = -1;
            for (int pass = 0; pass < job.head[3]; pass++) {
                if (!job.alive(pass, nozzle) || dots[pass][nozzle] > 0) {
                    since = pass;
                } else if (pass - since == job.head[6]) {
                    gutter[pass][nozzle] = true;
                    since = pass;
                }
            }
        }

        int missed(int line) {
            int bits = 0;
            for (int column = 0; column < 8; column++) {
                if (job.isDot(line, column) && by[line][column] == -1) {
                    bits |= 1 << column;
                }
            }
            return bits;
        }

        int missedCount(int line) {
            return Integer.bitCount(missed(line));
        }

        int allMissed() {
            int many = 0;
            for (int line = 0; line < 16; line++) {
                many += missedCount(line);
            }
            return many;
        }

        int printedAsWanted(boolean asWanted) {
            int many = 0;
            for (int line = 0; line < 16; line++) {
                for (int column = 0; column < 8; column++) {
                    int hit = by[line][column];
                    many += hit != -1 && (hit == job.wants(line, column)) == asWanted ? 1 : 0;
                }
            }
            return many;
        }

        int gutters() {
            int many = 0;
            for (boolean[] row : gutter) {
                for (boolean made : row) {
                    many += made ? 1 : 0;
                }
            }
            return many;
        }

        /** The passes in which a line is printed, in order. */
        int[] passes(int line) {
            List<Hit> hits = job.hits(line);
            return java.util.Arrays.stream(by[line]).filter(h -> h != -1).map(h -> hits.get(h).pass).sorted().toArray();
        }

        int open() {
            int most = 0;
            for (int pass = 0; pass < job.head[3]; pass++) {
                int many = 0;
                for (int line = 0; line < 16; line++) {
                    int[] passes = passes(line);
                    many += passes.length > 0 && passes[0] <= pass && !(passes[passes.length - 1] < pass) ? 1 : 0;
                }
                most = Math.max(most, many);
            }
            return most;
        }
    }

    private final Job job = new Job();
    private final List<Seen> seen = new ArrayList<>();
    private final int[][] rows = new int[4][];
    private final int[] forms = new int[4];
    private int latest = 0;

    private static boolean in(int v, int low, int high) {
        return low <= v && v <= high;
    }

    private Print print() {
        return new Print(job);
    }

    int line(int line, int dots) {
        if (!in(line, 0, 15) || !in(dots, 0, 255)) {
            return -2;
        }
        int was = job.picture[line];
        job.picture[line] = dots;
        return was;
    }

    int set(int what, int v) {
        if (!in(what, 0, 8) || !in(v, LOW[what], HIGH[what])) {
            return Integer.MIN_VALUE;
        }
        int was = job.head[what];
        job.head[what] = v;
        return was;
    }

    int event(int kind, int pass, int nozzle) {
        if (!in(kind, 0, 1) || !in(pass, 0, 11) || !in(nozzle, 0, 7)) {
            return -2;
        }
        if (job.events.size() == 8) {
            return -4;
        }
        job.events.add(new Event(kind, pass, nozzle));
        return job.events.size();
    }

    int back() {
        if (job.events.isEmpty()) {
            return -3;
        }
        job.events.remove(job.events.size() - 1);
        return job.events.size();
    }

    int read(int s) {
        if (!in(s, 0, 3)) {
            return -2;
        }
        if (rows[s] == null) {
            return finding(1);
        }
        for (int line = 0; line < 16; line++) {
            if (line >= rows[s].length || !in(rows[s][line], 0, 255)) {
                return line;
            }
            job.picture[line] = rows[s][line];
        }
        return 16;
    }

    int hits(int line) {
        return in(line, 0, 15) ? job.hits(line).size() : -2;
    }

    int hit(int line, int i, int what) {
        if (!in(line, 0, 15) || !in(i, 0, 11) || !in(what, 0, 1)) {
            return -2;
        }
        List<Hit> hits = job.hits(line);
        return i >= hits.size() ? -1 : what == 0 ? hits.get(i).pass : hits.get(i).nozzle;
    }

    int by(int line, int column, int what) {
        if (!in(line, 0, 15) || !in(column, 0, 7) || !in(what, 0, 1)) {
            return -2;
        }
        return what == 0 ? print().by[line][column] : job.wants(line, column);
    }

    int missed(int line) {
        return in(line, 0, 15) ? print().missed(line) : -2;
    }

    int done(int line) {
        if (!in(line, 0, 15)) {
            return -2;
        }
        int[] passes = print().passes(line);
        return passes.length == 0 ? -1 : passes[passes.length - 1];
    }

    int pass(int pass, int nozzle, int what) {
        if (!in(pass, 0, job.head[3] - 1) || !in(nozzle, 0, job.head[0] - 1) || !in(what, 0, 2)) {
            return -2;
        }
        if (what == 0) {
            return print().dots[pass][nozzle];
        }
        return (what == 1 ? print().gutter[pass][nozzle] : job.alive(pass, nozzle)) ? 1 : 0;
    }

    int sum(int what) {
        switch (what) {
            case 0:
                return java.util.Arrays.stream(job.picture).map(Integer::bitCount).sum();
            case 1:
                return print().allMissed();
            case 2:
                return print().printedAsWanted(false);
            case 3:
                return print().gutters();
            default:
                return -2;
        }
    }

    int least() {
        int many = 0;
        for (int line = 0; line < 16; line++) {
            List<Hit> hits = job.hits(line);
            int[][] holds = new int[hits.size()][8];
            for (int column = 0; column < 8; column++) {
                if (job.isDot(line, column) && !place(column, hits, holds, new boolean[hits.size()])) {
                    many++;
                }
            }
        }
        return many;
    }

    /** One more dot by an augmenting path; holds tells 1 where a hit prints a column. */
    private boolean place(int column, List<Hit> hits, int[][] holds, boolean[] tried) {
        for (int h = 0; h < hits.size(); h++) {
            if (tried[h] || !job.can(hits.get(h), column)) {
                continue;
            }
            tried[h] = true;
            if (java.util.Arrays.stream(holds[h]).sum() < job.head[5]) {
                holds[h][column] = 1;
                return true;
            }
            for (int other = 0; other < 8; other++) {
                if (holds[h][other] == 1 && place(other, hits, holds, tried)) {
                    holds[h][other] = 0;
                    holds[h][column] = 1;
                    return true;
                }
            }
        }
        return false;
    }

    int drops(int nozzle) {
        if (!in(nozzle, 0, job.head[0] - 1)) {
            return -2;
        }
        Print print = print();
        int many = 0;
        for (int pass = 0; pass < job.head[3]; pass++) {
            many += print.dots[pass][nozzle] + (print.gutter[pass][nozzle] ? 1 : 0);
        }
        return many;
    }

    int even(int what) {
        int[] many = new int[16];
        for (int line = 0; line < 16; line++) {
            many[line] = job.hits(line).size();
        }
        java.util.Arrays.sort(many);
        switch (what) {
            case 0:
                return many[0];
            case 1:
                return many[15];
            case 2:
                return (int) java.util.Arrays.stream(many).filter(m -> m == 1).count();
            default:
                return -2;
        }
    }

    int open() {
        return print().open();
    }

    int better(int by, int what) {
        if (!in(by, 0, 2) || !in(what, 0, 1)) {
            return Integer.MIN_VALUE;
        }
        int setting = new int[] {2, 8, 4}[by];
        List<int[]> all = new ArrayList<>();
        for (int v = LOW[setting]; v <= HIGH[setting]; v++) {
            Job other = job.twin();
            other.head[setting] = v;
            Print print = new Print(other);
            all.add(new int[] {print.allMissed(), -print.printedAsWanted(true), v});
        }
        all.sort(Comparator.comparingInt((int[] a) -> a[0]).thenComparingInt(a -> a[1]).thenComparingInt(a -> a[2]));
        return what == 0 ? all.get(0)[2] : all.get(0)[0];
    }

    private boolean noneMissed(int chosen) {
        Job other = job.twin();
        other.events.clear();
        for (int i = 0; i < job.events.size(); i++) {
            if ((chosen & 1 << i) != 0) {
                other.events.add(job.events.get(i));
            }
        }
        return new Print(other).allMissed() == 0;
    }

    int spare(int i) {
        if (!in(i, -1, 1)) {
            return -2;
        }
        int n = job.events.size();
        int all = (1 << n) - 1;
        List<int[]> rowsOfEvents = new ArrayList<>();
        rowsOfEvents.add(new int[0]);
        for (int a = 0; a < n; a++) {
            rowsOfEvents.add(new int[] {a});
        }
        for (int a = 0; a < n; a++) {
            for (int b = a + 1; b < n; b++) {
                rowsOfEvents.add(new int[] {a, b});
            }
        }
        for (int[] row : rowsOfEvents) {
            int left = all;
            for (int e : row) {
                left &= ~(1 << e);
            }
            if (noneMissed(left)) {
                return i == -1 ? row.length : i < row.length ? row[i] : -1;
            }
        }
        return -1;
    }

    int seen(int line, int many) {
        if (!in(line, 0, 15) || !in(many, 0, 8)) {
            return -2;
        }
        if (seen.size() == 8) {
            return -4;
        }
        seen.add(new Seen(line, many));
        return seen.size();
    }

    int forget() {
        int many = seen.size();
        seen.clear();
        return many;
    }

    private boolean fits(Job other) {
        Print print = new Print(other);
        return seen.stream().allMatch(s -> print.missedCount(s.line) == s.many);
    }

    int never() {
        int bits = 0;
        for (int e = 0; e < job.events.size(); e++) {
            Job other = job.twin();
            other.events.remove(e);
            bits |= fits(other) ? 1 << e : 0;
        }
        return bits;
    }

    private Job withDead(int nozzle) {
        Job other = job.twin();
        other.events.clear();
        other.events.add(new Event(0, 0, nozzle));
        return other;
    }

    int was(int what) {
        if (!in(what, 0, 1)) {
            return -2;
        }
        int bits = 0;
        if (what == 0) {
            for (int nozzle = 0; nozzle < job.head[0]; nozzle++) {
                bits |= fits(withDead(nozzle)) ? 1 << nozzle : 0;
            }
            return bits;
        }
        for (int cap = 1; cap <= 8; cap++) {
            Job other = job.twin();
            other.head[5] = cap;
            bits |= fits(other) ? 1 << cap : 0;
        }
        return bits;
    }

    int ask() {
        int deads = was(0);
        int best = -1;
        int bestGreatest = 99;
        for (int line = 0; line < 16; line++) {
            int[] groups = new int[9];
            for (int nozzle = 0; nozzle < 8; nozzle++) {
                if ((deads & 1 << nozzle) != 0) {
                    groups[new Print(withDead(nozzle)).missedCount(line)]++;
                }
            }
            int greatest = java.util.Arrays.stream(groups).max().getAsInt();
            if (greatest < bestGreatest) {
                best = line;
                bestGreatest = greatest;
            }
        }
        return best;
    }

    long chance(int c, int what) {
        if (!in(c, 0, 16) || !in(what, 0, 1)) {
            return Long.MIN_VALUE + 2;
        }
        int n = job.events.size();
        BigInteger above = BigInteger.ZERO;
        BigInteger below = BigInteger.valueOf(16).pow(n);
        for (int chosen = 0; chosen < 1 << n; chosen++) {
            int are = Integer.bitCount(chosen);
            if (noneMissed(chosen)) {
                above = above.add(BigInteger.valueOf(c).pow(are).multiply(BigInteger.valueOf(16 - c).pow(n - are)));
            }
        }
        return (what == 0 ? above : below).divide(above.gcd(below)).longValueExact();
    }

    int tests(int seed, int n, int what) {
        if (!in(n, 0, 16) || !in(what, 0, 1)) {
            return -2;
        }
        Job other = job.twin();
        other.picture = new int[16];
        for (int line = 0; line < n; line++) {
            seed = 1103515245 * seed + 12345;
            other.picture[line] = (int) (((seed & 0xffffffffL) / 65536) % 256);
        }
        Print print = new Print(other);
        return what == 0 ? print.allMissed() : print.gutters();
    }

    private int finding(int number) {
        latest = number;
        return -10 - number;
    }

    int sheet(int s, int form, int n) {
        if (!in(s, 0, 3) || !in(form, 0, 2) || n > 60) {
            return -2;
        }
        if (n < 0) {
            return finding(5);
        }
        rows[s] = new int[n];
        forms[s] = form;
        return n;
    }

    int lose(int s) {
        if (!in(s, 0, 3)) {
            return -2;
        }
        if (rows[s] == null) {
            return finding(1);
        }
        int had = rows[s].length;
        rows[s] = null;
        return had;
    }

    private int cut(int s, int v) {
        return forms[s] == 0 ? (byte) v : forms[s] == 1 ? (short) v : v;
    }

    int put(int s, int form, int i, int v) {
        if (!in(s, 0, 3) || !in(form, 0, 2)) {
            return -2;
        }
        if (rows[s] == null) {
            return finding(1);
        }
        if (forms[s] != form) {
            return finding(3);
        }
        if (!in(i, 0, rows[s].length - 1)) {
            return finding(2);
        }
        rows[s][i] = cut(s, v);
        return 1;
    }

    int get(int s, int form, int i) {
        if (!in(s, 0, 3) || !in(form, 0, 2)) {
            return Integer.MIN_VALUE;
        }
        if (rows[s] == null) {
            finding(1);
        } else if (forms[s] != form) {
            finding(3);
        } else if (!in(i, 0, rows[s].length - 1)) {
            finding(2);
        } else {
            return rows[s][i];
        }
        return Integer.MIN_VALUE;
    }

    int copy(int s, int i, int t, int j, int n) {
        if (!in(s, 0, 3) || !in(t, 0, 3)) {
            return -2;
        }
        if (rows[s] == null || rows[t] == null) {
            return finding(1);
        }
        if (forms[s] != forms[t]) {
            return finding(4);
        }
        if (i < 0 || j < 0 || n < 0 || (long) i + n > rows[s].length || (long) j + n > rows[t].length) {
            return finding(2);
        }
        int[] before = rows[s].clone();
        for (int k = 0; k < n; k++) {
            rows[t][j + k] = before[i + k];
        }
        return 1;
    }

    int write(int s) {
        if (!in(s, 0, 3)) {
            return -2;
        }
        if (rows[s] == null) {
            return finding(1);
        }
        int many = 0;
        for (int line = 0; line < 16 && line < rows[s].length; line++) {
            rows[s][line] = cut(s, missed(line));
            many++;
        }
        return many;
    }

    int count(int what) {
        switch (what) {
            case 0:
                return sum(0);
            case 1:
                int many = 0;
                for (int line = 0; line < 16; line++) {
                    many += hits(line);
                }
                return many;
            case 2:
                return job.events.size();
            case 3:
                return sum(1);
            case 4:
                return least();
            case 5:
                return sum(3);
            case 6:
                return open();
            case 7:
                return seen.size();
            case 8:
                return latest;
            default:
                return -2;
        }
    }

    long digest() {
        List<Long> row = new ArrayList<>();
        for (int what = 0; what < 8; what++) {
            row.add((long) count(what));
        }
        for (int line = 0; line < 16; line++) {
            row.add((long) hits(line));
            for (int i = 0; i < 3; i++) {
                row.add((long) hit(line, i, 0));
                row.add((long) hit(line, i, 1));
            }
            for (int column : new int[] {0, 3, 7}) {
                row.add((long) by(line, column, 0));
                row.add((long) by(line, column, 1));
            }
            row.add((long) missed(line));
            row.add((long) done(line));
        }
        for (int pass = 0; pass < job.head[3]; pass++) {
            for (int nozzle = 0; nozzle < job.head[0]; nozzle++) {
                for (int what = 0; what < 3; what++) {
                    row.add((long) pass(pass, nozzle, what));
                }
            }
        }
        for (int nozzle = 0; nozzle < job.head[0]; nozzle++) {
            row.add((long) drops(nozzle));
        }
        for (int what = 0; what < 4; what++) {
            row.add((long) sum(what));
        }
        for (int what = 0; what < 3; what++) {
            row.add((long) even(what));
        }
        for (int by = 0; by < 3; by++) {
            row.add((long) better(by, 0));
            row.add((long) better(by, 1));
        }
        row.add((long) spare(-1));
        row.add((long) spare(0));
        row.add((long) never());
        row.add((long) was(0));
        row.add((long) was(1));
        row.add((long) ask());
        row.add(chance(5, 0));
        row.add(chance(5, 1));
        row.add((long) tests(7, 12, 0));
        row.add((long) tests(7, 12, 1));
        long h = 17;
        for (long v : row) {
            h = 31 * h + v;
        }
        return h;
    }
}
