import java.util.function.Consumer;

/**
 * The digest, worked out call by call as the document tells it. So many calls are not promised of one object:
 * each part asks another one that was told the same.
 */
final class Digest {
    private long h = 17;

    private Digest() {
    }

    static long byCalls(Consumer<InkSwaths> told) {
        Digest digest = new Digest();
        digest.mixLines(Twins.made(told));
        digest.mixHead(Twins.made(told));
        digest.mixPlans(Twins.made(told));
        return digest.h;
    }

    private void mixLines(InkSwaths x) {
        for (int what = 0; what <= 7; what++) {
            mix(x.count(what));
        }
        for (int line = 0; line <= 15; line++) {
            mix(x.hits(line));
            for (int i = 0; i <= 2; i++) {
                mix(x.hit(line, i, 0), x.hit(line, i, 1));
            }
            for (int column : new int[] {0, 3, 7}) {
                mix(x.by(line, column, 0), x.by(line, column, 1));
            }
            mix(x.missed(line), x.done(line));
        }
    }

    private void mixHead(InkSwaths x) {
        int nozzles = asTold(x, 0);
        int passes = asTold(x, 3);
        for (int pass = 0; pass < passes; pass++) {
            for (int nozzle = 0; nozzle < nozzles; nozzle++) {
                mix(x.pass(pass, nozzle, 0), x.pass(pass, nozzle, 1), x.pass(pass, nozzle, 2));
            }
        }
        for (int nozzle = 0; nozzle < nozzles; nozzle++) {
            mix(x.drops(nozzle));
        }
    }

    private static int asTold(InkSwaths x, int what) {
        int v = x.set(what, 1);
        x.set(what, v);
        return v;
    }

    private void mixPlans(InkSwaths x) {
        mix(x.sum(0), x.sum(1), x.sum(2), x.sum(3));
        mix(x.even(0), x.even(1), x.even(2));
        for (int by = 0; by <= 2; by++) {
            mix(x.better(by, 0), x.better(by, 1));
        }
        mix(x.spare(-1), x.spare(0));
        mix(x.never(), x.was(0), x.was(1), x.ask());
        mix(x.chance(5, 0), x.chance(5, 1));
        mix(x.tests(7, 12, 0), x.tests(7, 12, 1));
    }

    private void mix(long... values) {
        for (long v : values) {
            h = 31 * h + v;
        }
    }
}
