import java.util.Random;

/** All promises: long runs of calls, made up by a fixed seed, on RescueBench and SlowBench side by side. */
public final class SideBySideTest {
    private interface Call {
        long answer();
    }

    private static final int RUNS = 800;
    /** With the calls of one more step, an object stays under the 512 that it is made for. */
    private static final int CALLS = 360;

    private final Random random;
    private final RescueBench fast = new RescueBench();
    private final SlowBench slow = new SlowBench();
    private final int run;
    private final int[] letters;
    private final int wrongIn;
    private final boolean shortFiles;
    private int calls = 0;
    private String latest = "";

    private static long compared = 0;
    private static int wrong = 0;
    private static int tooManyFiles = 0;
    private static int tooManyLooks = 0;
    private static int notTold = 0;
    private static int severalFiles = 0;
    private static int bigCovers = 0;
    private static int tornTooLong = 0;

    private SideBySideTest(int run) {
        this.run = run;
        random = new Random(run);
        int[][] alphabets = {{0}, {0, 9}, {9, 9, 9, 1}, {0, 1, 2, 3, 255}, {0, 128, 200, 7}};
        letters = alphabets[random.nextInt(alphabets.length)];
        wrongIn = 20 + random.nextInt(100);
        shortFiles = random.nextInt(3) == 0;
    }

    public static void main(String[] args) {
        for (int run = 0; run < RUNS; run++) {
            new SideBySideTest(run).go();
        }
        System.out.println(compared + " answers compared; searches with too many files " + tooManyFiles
                + ", too many looks " + tooManyLooks + ", best not told " + notTold + ", several files " + severalFiles
                + ", covers of three files and more " + bigCovers + "; torn too long " + tornTooLong);
        // A case that never comes up would not be tested, whatever the answers.
        boolean all = tooManyFiles > 20 && tooManyLooks > 20 && notTold > 20 && severalFiles > 100 && bigCovers > 100
                && tornTooLong > 5;
        Due.holds("each case came up", all);
        Due.same("answers that differ", wrong, 0);
        Due.end();
    }

    private void go() {
        int makes = 1 + random.nextInt(3) * random.nextInt(3);
        for (int i = 0; i < makes; i++) {
            someMake();
        }
        while (calls < CALLS) {
            step();
        }
    }

    private void step() {
        int what = random.nextInt(100);
        if (what < 22) {
            someFile();
        } else if (what < 34) {
            someBlock();
        } else if (what < 50) {
            someChange();
        } else if (what < 56) {
            int n = random.nextInt(4) == 0 ? random.nextInt(26) : random.nextInt(4) == 0 ? 23 : 1 + random.nextInt(6);
            same("reach " + n, () -> fast.reach(n), () -> slow.reach(n));
        } else if (what < 60) {
            someEdge(random.nextInt(7) - random.nextInt(2));
        } else if (what < 62) {
            someGoals();
        } else if (what < 63) {
            someMake();
        } else if (what < 72) {
            int block = random.nextInt(3) == 0 ? random.nextInt(26) - 1 : random.nextInt(3);
            if (same("torn " + block, () -> fast.torn(block), () -> slow.torn(block)) == -1) {
                tornTooLong++;
            }
        } else if (what < 80) {
            askCounts();
        } else {
            searchAndAsk();
        }
    }

    private void someMake() {
        int first = random.nextInt(wrongIn) == 0 ? 256 : random.nextInt(4) == 0 ? letters[0] : 1;
        int second = random.nextInt(wrongIn) == 0 ? -1 : random.nextInt(4) == 0 ? letters[0] : 2;
        int check = random.nextInt(wrongIn) == 0 ? 3 : random.nextInt(3);
        long made = same("make " + first + " " + second + " " + check, () -> fast.make(first, second, check),
                () -> slow.make(first, second, check));
        int make = (int) made;
        if (random.nextInt(4) > 0) {
            same("wide edge " + make, () -> fast.edge(make, 0, 0, 255, 0), () -> slow.edge(make, 0, 0, 255, 0));
            same("goals 1 " + make, () -> fast.goals(make, 1), () -> slow.goals(make, 1));
        } else {
            for (int i = 0; i < 6; i++) {
                someEdge(make);
            }
            same("goals 7 " + make, () -> fast.goals(make, 7), () -> slow.goals(make, 7));
        }
    }

    private void someEdge(int make) {
        int from = random.nextInt(wrongIn) == 0 ? 16 : random.nextInt(4);
        int to = random.nextInt(wrongIn) == 0 ? -1 : random.nextInt(4);
        int low = letter();
        int high = random.nextBoolean() ? low : low + random.nextInt(200);
        same("edge " + make + " " + from + " " + low + " " + high + " " + to,
                () -> fast.edge(make, from, low, high, to), () -> slow.edge(make, from, low, high, to));
    }

    private void someGoals() {
        int make = random.nextInt(4);
        int bits = random.nextInt(wrongIn) == 0 ? 65536 : random.nextBoolean() ? 1 : random.nextInt(65536);
        same("goals " + make + " " + bits, () -> fast.goals(make, bits), () -> slow.goals(make, bits));
    }

    private int letter() {
        return letters[random.nextInt(letters.length)];
    }

    private void someFile() {
        int[] lengths = {0, 1, 4, 5, 8, 12, 13, 16, 20, 21, 28, 29, 36};
        int length = random.nextInt(3) == 0 ? random.nextInt(38) : lengths[random.nextInt(lengths.length)];
        if (shortFiles) {
            length = random.nextInt(random.nextInt(4) == 0 ? 10 : 5);
        }
        for (int i = 0; i < length; i++) {
            int b = random.nextInt(wrongIn * 20) == 0 ? 256 : letter();
            same("push " + b, () -> fast.push(b), () -> slow.push(b));
        }
        int make = random.nextInt(20) == 0 ? 6 : random.nextInt(2);
        same("check " + make, () -> fast.check(make), () -> slow.check(make));
        same("write " + make, () -> fast.write(make), () -> slow.write(make));
    }

    private void someBlock() {
        long bytes = someBytes();
        same("block " + bytes, () -> fast.block(bytes), () -> slow.block(bytes));
    }

    private void someChange() {
        int block = random.nextInt(25);
        long bytes = someBytes();
        same("change " + block + " " + bytes, () -> fast.change(block, bytes), () -> slow.change(block, bytes));
    }

    /** Most often what another block has, so that there are several ways to go on. */
    private long someBytes() {
        int kind = random.nextInt(10);
        if (kind < 6 && slow.count(0) > 0) {
            return slow.bytes(random.nextInt(slow.count(0)));
        }
        if (kind < 7) {
            return Given.block(1, 2, random.nextInt(38), letter(), letter(), letter(), letter(), letter());
        }
        if (kind < 8) {
            return random.nextLong();
        }
        return Given.block(letter(), letter(), letter(), letter(), letter(), letter(), letter(), letter());
    }

    private void askCounts() {
        int what = random.nextInt(8) - 1;
        same("count " + what, () -> fast.count(what), () -> slow.count(what));
        int block = random.nextInt(26) - 1;
        same("bytes " + block, () -> fast.bytes(block), () -> slow.bytes(block));
        askBest();
    }

    private void searchAndAsk() {
        long files = same("search", fast::search, slow::search);
        tooManyFiles += files == -1 ? 1 : 0;
        tooManyLooks += files == -2 ? 1 : 0;
        severalFiles += files > 3 ? 1 : 0;
        same("count 5", () -> fast.count(5), () -> slow.count(5));
        askBest();
        notTold += slow.best() == -1 ? 1 : 0;
        bigCovers += slow.covers(2) != -1 ? 1 : 0;
        for (int i = 0; i < 8 && i <= files; i++) {
            askFile(files <= 8 ? i : random.nextInt((int) files + 1));
        }
    }

    private void askBest() {
        same("best", fast::best, slow::best);
        same("cost", fast::cost, slow::cost);
        for (int i = -1; i < 7; i++) {
            int at = i;
            same("covers " + at, () -> fast.covers(at), () -> slow.covers(at));
        }
        for (int i = 0; i < 4; i++) {
            int at = random.nextInt(26) - 1;
            same("nobody " + at, () -> fast.nobody(at), () -> slow.nobody(at));
        }
    }

    private void askFile(int k) {
        for (int what = -1; what <= 10; what++) {
            int w = what;
            same("file " + k + " " + w, () -> fast.file(k, w), () -> slow.file(k, w));
        }
        for (int n = 0; n < 4; n++) {
            int i = random.nextInt(38) - 1;
            same("data " + k + " " + i, () -> fast.data(k, i), () -> slow.data(k, i));
        }
    }

    private long same(String what, Call one, Call other) {
        calls++;
        compared++;
        String got = told(one);
        String due = told(other);
        if (!got.equals(due)) {
            wrong++;
            System.out.println("run " + run + ", call " + calls + ", " + what + " (after " + latest + "): " + got
                    + ", due is " + due);
        }
        latest = what;
        return due.startsWith("throws") ? Integer.MIN_VALUE : Long.parseLong(due);
    }

    private static String told(Call call) {
        try {
            return Long.toString(call.answer());
        } catch (RuntimeException e) {
            return "throws " + e.getClass().getSimpleName();
        }
    }
}
