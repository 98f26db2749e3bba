import java.util.function.LongSupplier;

/**
 * All that can be seen of a bench, as one text: two benches that are alike have the same. The bench is used up by it:
 * edges and the hand are seen only by what is done with them.
 */
final class Picture {
    private static final int MOST_FILES = 4;

    private final RescueBench x;
    private final StringBuilder text = new StringBuilder();

    private Picture(RescueBench x) {
        this.x = x;
    }

    /** Stays under 250 calls, so that with what was called ahead of it the bench stays under its 512. */
    static String of(RescueBench x) {
        Picture picture = new Picture(x);
        picture.counts();
        picture.disk();
        picture.files();
        picture.best();
        picture.makes();
        picture.doing();
        return picture.text.toString();
    }

    private void add(String name, LongSupplier call) {
        text.append(name).append(' ');
        try {
            text.append(call.getAsLong());
        } catch (RuntimeException e) {
            text.append(e.getClass().getSimpleName());
        }
        text.append("; ");
    }

    private void counts() {
        for (int what = 0; what < 6; what++) {
            int w = what;
            add("count " + w, () -> x.count(w));
        }
    }

    private void disk() {
        for (int block = 0; block < x.count(0); block++) {
            int b = block;
            add("bytes " + b, () -> x.bytes(b));
            add("torn " + b, () -> x.torn(b));
        }
    }

    private void files() {
        for (int file = 0; file < Math.min(MOST_FILES, x.count(3)); file++) {
            int k = file;
            for (int what = 0; what < 8; what++) {
                int w = what;
                add("file " + k + " " + w, () -> x.file(k, w));
            }
            for (int i = 0; i < 6; i++) {
                int at = i;
                add("data " + k + " " + at, () -> x.data(k, at));
            }
        }
    }

    private void best() {
        add("best", x::best);
        add("cost", x::cost);
        for (int i = 0; i < 3; i++) {
            int at = i;
            add("covers " + at, () -> x.covers(at));
            add("nobody " + at, () -> x.nobody(at));
        }
    }

    private void makes() {
        for (int make = 0; make < x.count(1); make++) {
            int m = make;
            add("check " + m, () -> x.check(m));
            add("write " + m, () -> x.write(m));
            add("goals " + m, () -> x.goals(m, 65535));
            add("edge " + m, () -> x.edge(m, 0, 0, 255, 0));
        }
    }

    private void doing() {
        add("search", x::search);
        add("reach", () -> x.reach(23));
        add("push", () -> x.push(200));
        add("write", () -> x.write(0));
        add("make", () -> x.make(1, 2, 0));
        add("block", () -> x.block(5));
        add("last", () -> x.bytes(x.count(0) - 1));
    }
}
