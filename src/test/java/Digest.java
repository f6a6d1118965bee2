/** The digest, worked out call by call as the document tells it. */
final class Digest {
    private long h = 17;

    private Digest() {
    }

    static long byCalls(InkSwaths x) {
        Digest digest = new Digest();
        for (int what = 0; what <= 7; what++) {
            digest.mix(x.count(what));
        }
        for (int line = 0; line <= 15; line++) {
            digest.mixLine(x, line);
        }
        digest.mixHead(x);
        digest.mix(x.sum(0), x.sum(1), x.sum(2), x.sum(3));
        digest.mix(x.even(0), x.even(1), x.even(2));
        for (int by = 0; by <= 2; by++) {
            digest.mix(x.better(by, 0), x.better(by, 1));
        }
        digest.mix(x.spare(-1), x.spare(0));
        digest.mix(x.never(), x.was(0), x.was(1), x.ask());
        digest.mix(x.chance(5, 0), x.chance(5, 1));
        digest.mix(x.tests(7, 12, 0), x.tests(7, 12, 1));
        return digest.h;
    }

    private void mixLine(InkSwaths x, int line) {
        mix(x.hits(line));
        for (int i = 0; i <= 2; i++) {
            mix(x.hit(line, i, 0), x.hit(line, i, 1));
        }
        for (int column : new int[] {0, 3, 7}) {
            mix(x.by(line, column, 0), x.by(line, column, 1));
        }
        mix(x.missed(line), x.done(line));
    }

    private void mixHead(InkSwaths x) {
        for (int pass = 0; x.pass(pass, 0, 0) != -2; pass++) {
            for (int nozzle = 0; x.pass(pass, nozzle, 0) != -2; nozzle++) {
                mix(x.pass(pass, nozzle, 0), x.pass(pass, nozzle, 1), x.pass(pass, nozzle, 2));
            }
        }
        for (int nozzle = 0; x.drops(nozzle) != -2; nozzle++) {
            mix(x.drops(nozzle));
        }
    }

    private void mix(long... values) {
        for (long v : values) {
            h = 31 * h + v;
        }
    }
}
