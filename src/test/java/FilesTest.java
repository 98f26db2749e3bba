import java.util.List;
import java.util.function.Supplier;

/** Promises 11 to 18: what a search answers, and what is told of its files and of the best cover. */
public final class FilesTest {
    private static final int LEAST = Integer.MIN_VALUE;
    private static final int MOST = Integer.MAX_VALUE;
    private static final long ALONE = Given.block(1, 2, 0, 3);

    public static void main(String[] args) {
        search();
        file();
        data();
        torn();
        best();
        cost();
        covers();
        nobody();
        Due.end();
    }

    /** Searched once with two files, and then with more than 40 files: -1. */
    private static RescueBench tooManyFiles() {
        RescueBench x = Given.open(Given.SUM);
        Given.openMake(x, 1, 2, Given.SUM);
        x.block(ALONE);
        x.search();
        x.change(0, Given.block(1, 2, 5));
        Given.blocks(x, Given.block(8), 21);
        x.reach(23);
        x.search();
        return x;
    }

    /** Searched once with a file, and then with more than 20,000 looks: -2. */
    private static RescueBench tooManyLooks() {
        RescueBench x = Given.open(Given.SUM);
        x.block(ALONE);
        x.search();
        x.block(Given.block(1, 2, 36, 9, 9, 9, 9, 9));
        Given.blocks(x, Given.block(Given.many(9, 8)), 20);
        x.reach(23);
        x.search();
        return x;
    }

    /** More than 6 first blocks. */
    private static RescueBench notTold() {
        RescueBench x = Given.open(Given.SUM);
        Given.blocks(x, ALONE, 7);
        x.search();
        return x;
    }

    /** Blocks, but no search of them. */
    private static RescueBench aheadOfAny() {
        RescueBench x = Given.open(Given.SUM);
        Given.blocks(x, ALONE, 3);
        return x;
    }

    /** A search that finds no file. */
    private static RescueBench ofNone() {
        RescueBench x = Given.open(Given.SUM);
        Given.blocks(x, ALONE, 2);
        x.search();
        x.change(0, Given.JUNK);
        x.change(1, Given.JUNK);
        x.search();
        return x;
    }

    private static void search() {
        Due.by("SEARCH: how many FILES; or -1, -2 (then there are none).");
        RescueBench x = new RescueBench();
        Due.same("of nothing", x.search(), 0);
        x.block(ALONE);
        Due.same("without a make", x.search(), 0);
        Given.openMake(x, 1, 2, Given.SUM);
        Due.same("one", x.search(), 1);
        Due.same("once more", x.search(), 1);
        Given.blocks(x, ALONE, 23);
        Due.same("24", x.search(), 24);
        Due.same("files", x.count(3), 24);
        Due.same("too many files", tooManyFiles().search(), -1);
        Due.same("too many looks", tooManyLooks().search(), -2);
        for (RescueBench none : new RescueBench[] {tooManyFiles(), tooManyLooks(), ofNone()}) {
            Due.same("then there are none", none.count(3), 0);
        }
        for (Supplier<RescueBench> none : noFiles()) {
            Due.outOfBounds("then there is no file", none, y -> y.file(0, 0));
            Due.outOfBounds("nor its data", none, y -> y.data(0, 0));
        }
        RescueBench again = tooManyLooks();
        again.reach(1);
        Due.same("behind too many looks", again.search(), 1);
        Given.fileIs(again, 0, 0, 0);
        RescueBench less = tooManyFiles();
        less.reach(5);
        Due.same("behind too many files", less.search(), 10);
        Given.fileIs(less, 9, 1, 0, 5);
    }

    private static List<Supplier<RescueBench>> noFiles() {
        return List.of(RescueBench::new, FilesTest::aheadOfAny, FilesTest::ofNone, FilesTest::tooManyFiles,
                FilesTest::tooManyLooks);
    }

    private static void file() {
        Due.by("Of FILE k: 0 its MAKE, 1 LENGTH, 2 its COST, 3 whether it is SURE (1, 0), 4 how many BLOCKS, 5 and on the"
                + " BLOCKS; NONE beyond.");
        int[][] due = {{0, 7, 0, 1, 2, 1, 2, -1, -1}, {1, 2, 0, 1, 1, 3, -1, -1, -1}};
        for (int k = 0; k < 2; k++) {
            for (int what = 0; what < due[k].length; what++) {
                int file = k;
                int w = what;
                Due.only("file " + k + " " + what, Given::desk, x -> x.file(file, w), due[k][what]);
            }
            for (int beyond : new int[] {9, 10, 11, 36, 1000, MOST - 1, MOST}) {
                int file = k;
                Due.only("file " + k + " " + beyond, Given::desk, x -> x.file(file, beyond), -1);
            }
        }
        RescueBench longest = Given.open(Given.CRC);
        longest.reach(1);
        int[] data = new int[36];
        for (int i = 0; i < 36; i++) {
            data[i] = 3 * i;
        }
        Given.putFile(longest, 1, 2, Given.CRC, data);
        longest.search();
        int[] dueLongest = {0, 36, 0, 1, 5, 0, 1, 2, 3, 4, -1, -1};
        for (int what = 0; what < dueLongest.length; what++) {
            Due.same("of the longest file " + what, longest.file(0, what), dueLongest[what]);
        }
        RescueBench notSure = tooManyFiles();
        notSure.reach(1);
        notSure.search();
        Due.same("not sure", notSure.file(0, 3), 0);
        Due.by("IndexOutOfBoundsException: no such FILE (so below);");
        for (int wrong : new int[] {-1, 2, 3, 39, 40, 41, LEAST, MOST}) {
            Due.outOfBounds("file " + wrong, Given::desk, x -> x.file(wrong, 0));
            Due.outOfBounds("file " + wrong + ", what -1", Given::desk, x -> x.file(wrong, -1));
            Due.outOfBounds("data of file " + wrong, Given::desk, x -> x.data(wrong, 0));
            Due.outOfBounds("data -1 of file " + wrong, Given::desk, x -> x.data(wrong, -1));
        }
        Due.by("IllegalArgumentException: what is below 0.");
        for (int wrong : new int[] {-1, -2, -5, LEAST}) {
            Due.badArgument("what " + wrong, Given::desk, x -> x.file(0, wrong));
            Due.badArgument("what " + wrong + " of the last", Given::desk, x -> x.file(1, wrong));
        }
    }

    private static void data() {
        Due.by("DATA byte i of FILE k; NONE.");
        int[][] due = {{9, 8, 7, 6, 5, 4, 3, -1, -1}, {40, 41, -1, -1, -1}};
        for (int k = 0; k < due.length; k++) {
            int file = k;
            for (int i = 0; i < due[k].length; i++) {
                int at = i;
                Due.only("data " + k + " " + i, Given::desk, x -> x.data(file, at), due[k][i]);
            }
            for (int beyond : new int[] {-1, -3, 12, 13, 36, 37, LEAST, MOST}) {
                Due.only("data " + k + " " + beyond, Given::desk, x -> x.data(file, beyond), -1);
            }
        }
        for (int length = 0; length <= 36; length++) {
            RescueBench x = Given.open(Given.CRC);
            x.reach(1);
            int[] data = new int[length];
            for (int i = 0; i < length; i++) {
                data[i] = 255 - 7 * i;
            }
            Given.putFile(x, 1, 2, Given.CRC, data);
            x.search();
            for (int i = 0; i < length; i++) {
                Due.same("data " + i + " of " + length, x.data(0, i), data[i]);
            }
            Due.same("the check is no data", x.data(0, length), -1);
            Due.same("nor is the length", x.data(0, -1), -1);
        }
        RescueBench back = Given.open(Given.SUM);
        long[] blocks = Given.fileOf(1, 2, Given.SUM, 1, 2, 3, 4, 5, 6);
        back.block(blocks[1]);
        back.block(blocks[0]);
        back.search();
        Due.same("in the order of the row", back.data(0, 5), 6);
        back.change(0, 0);
        Due.same("as it was", back.data(0, 5), 6);
    }

    private static void torn() {
        Due.by("TORN of a BLOCK.");
        int[] due = {1, 2, 0, 1, 0};
        for (int block = 0; block < due.length; block++) {
            int b = block;
            Due.only("torn " + block, Given::desk, x -> x.torn(b), due[block]);
        }
        Due.only("too many looks", FilesTest::tooManyLooks, x -> x.torn(1), -1);
        Due.only("of another block", FilesTest::tooManyLooks, x -> x.torn(0), 1);
        Due.only("ahead of any search", FilesTest::aheadOfAny, x -> x.torn(2), 1);
    }

    private static void best() {
        Due.by("BEST's BLOCKS in all; NONE: it is not told (so below; 0 ahead of any SEARCH, and of none).");
        Due.only("three", Given::desk, RescueBench::best, 3);
        Due.only("not told", FilesTest::notTold, RescueBench::best, -1);
        Due.only("cost not told", FilesTest::notTold, RescueBench::cost, -1);
        for (int i = 0; i < 8; i++) {
            int at = i;
            Due.only("covers not told", FilesTest::notTold, x -> x.covers(at), -1);
            Due.only("nobody not told", FilesTest::notTold, x -> x.nobody(at), -1);
        }
        for (Supplier<RescueBench> none : noFiles()) {
            Due.only("of none", none, RescueBench::best, 0);
            Due.only("cost of none", none, RescueBench::cost, 0);
            Due.only("covers of none", none, x -> x.covers(0), -1);
        }
        RescueBench x = notTold();
        x.goals(0, 0);
        x.search();
        Due.same("of none, behind one that was not told", x.best(), 0);
        Due.same("its cost", x.cost(), 0);
    }

    /** A file that costs 3, a block alone, and the head of a file whose end, at a cost of 2, is not right yet. */
    private static RescueBench costly() {
        RescueBench x = Given.open(Given.SUM);
        x.block(Given.block(1, 2, 5));
        Given.blocks(x, Given.JUNK, 3);
        x.block(Given.block(8));
        x.block(ALONE);
        Given.blocks(x, Given.JUNK, 3);
        x.block(Given.block(9));
        x.block(Given.block(1, 2, 6));
        x.search();
        return x;
    }

    private static void cost() {
        Due.by("BEST's COST together.");
        Due.only("none", Given::desk, RescueBench::cost, 0);
        RescueBench x = costly();
        Due.same("two files", x.search(), 2);
        Due.only("3 and 0", FilesTest::costly, RescueBench::cost, 3);
        x.change(9, Given.block(0, 9));
        Due.same("three files", x.search(), 3);
        Due.same("3, 0 and 2", x.cost(), 5);
        x.change(0, 0);
        Due.same("as it was", x.cost(), 5);
        x.search();
        Due.same("0 and 2", x.cost(), 2);
    }

    private static void covers() {
        Due.by("The i-th FILE of BEST, rising; NONE without.");
        int[] due = {0, 1, -1, -1};
        for (int i = 0; i < due.length; i++) {
            int at = i;
            Due.only("covers " + i, Given::desk, x -> x.covers(at), due[i]);
        }
        for (int without : new int[] {-1, -2, 6, 7, 40, LEAST, MOST}) {
            Due.only("covers " + without, Given::desk, x -> x.covers(without), -1);
        }
        RescueBench six = Given.open(Given.SUM);
        Given.openMake(six, 1, 2, Given.XOR);
        Given.blocks(six, ALONE, 6);
        six.search();
        for (int i = 0; i < 6; i++) {
            Due.same("of six " + i, six.covers(i), 2 * i);
        }
        Due.same("no seventh", six.covers(6), -1);
        Due.same("none at -1", six.covers(-1), -1);
    }

    private static void nobody() {
        Due.by("The i-th BLOCK that is NOBODY's, rising; NONE without.");
        int[] due = {0, -1, -1};
        for (int i = 0; i < due.length; i++) {
            int at = i;
            Due.only("nobody " + i, Given::desk, x -> x.nobody(at), due[i]);
        }
        for (int without : new int[] {-1, -2, 4, 5, 23, 24, LEAST, MOST}) {
            Due.only("nobody " + without, Given::desk, x -> x.nobody(without), -1);
        }
        int[] costly = {1, 2, 3, 6, 7, 8, 9, 10, -1};
        for (int i = 0; i < costly.length; i++) {
            int at = i;
            Due.only("nobody " + i, FilesTest::costly, x -> x.nobody(at), costly[i]);
        }
        Due.only("ahead of any search", FilesTest::aheadOfAny, x -> x.nobody(0), -1);
        Due.only("of none", FilesTest::ofNone, x -> x.nobody(1), 1);
        Due.only("of no more", FilesTest::ofNone, x -> x.nobody(2), -1);
        Due.only("behind -1 all that were there", FilesTest::tooManyFiles, x -> x.nobody(21), 21);
        Due.only("behind -1 no more", FilesTest::tooManyFiles, x -> x.nobody(22), -1);
        Due.only("behind -2 all that were there", FilesTest::tooManyLooks, x -> x.nobody(21), 21);
        Due.only("behind -2 no more", FilesTest::tooManyLooks, x -> x.nobody(22), -1);
    }
}
