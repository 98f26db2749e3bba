/** Promises 15 to 18: the best cover, and whom its blocks belong to. */
public final class BestTest {
    private static final int A = 1;
    private static final int B = 2;
    private static final long ALONE = Given.block(A, B, 0, 3);

    public static void main(String[] args) {
        mostBlocks();
        leastCost();
        fewestFiles();
        firstOne();
        sixAndSevenFirstBlocks();
        ofTheLatestSearch();
        nobodyAheadOfASearch();
        Due.end();
    }

    /** The first file of the order stands in the way of more blocks. */
    private static void mostBlocks() {
        RescueBench x = Given.open(Given.XOR);
        x.reach(1);
        x.block(Given.block(A, B, 5, 0, 0, 0, 0, 0));
        x.block(Given.block(A ^ B ^ 5, 0, 0, 0, 0, 0, 0, 0));
        x.search();
        Given.bestIs(x, 2, 0, 0);
        RescueBench y = threeAgainstTwo();
        Due.same("files", y.search(), 2);
        Given.fileIs(y, 0, 0, 0, 1);
        Given.fileIs(y, 1, 0, 1, 2, 3);
        Given.bestIs(y, 3, 0, 1);
        Given.nobodyIs(y, 0);
    }

    private static RescueBench threeAgainstTwo() {
        RescueBench y = Given.open(Given.SUM);
        y.reach(1);
        y.block(Given.block(A, B, 12, 9, 9, 9, 9, 9));
        int end = A + B + 12 + 5 * 9 + A + B + 20 + 4 * 9;
        y.block(Given.block(A, B, 20, 9, 9, 9, 9, end));
        y.block(Given.block(5, 5, 5, 5, 5, 5, 5, 5));
        y.block(Given.block(6, 6, 6, 6, 6, 6, 6, (A + B + 20 + 4 * 9 + end + 40 + 42) % 256));
        return y;
    }

    private static void leastCost() {
        RescueBench x = Given.open(Given.SUM);
        long end = Given.block(A + B + 5);
        x.block(end);
        x.block(end);
        x.block(Given.block(A, B, 5));
        x.block(0);
        x.block(end);
        x.search();
        Given.fileIs(x, 0, 0, 2, 0);
        Given.fileIs(x, 1, 0, 2, 1);
        Given.fileIs(x, 2, 0, 2, 4);
        Due.same("cost of [2, 0]", x.file(0, 2), 3);
        Due.same("cost of [2, 1]", x.file(1, 2), 2);
        Due.same("cost of [2, 4]", x.file(2, 2), 1);
        Given.bestIs(x, 2, 1, 2);
        Given.nobodyIs(x, 0, 1, 3);
    }

    /** Two files of two blocks are ahead in order, one of four has as many blocks at the same cost. */
    private static void fewestFiles() {
        RescueBench x = Given.open(Given.SUM);
        x.reach(1);
        int head = A + B + 12 + 5 * 9;
        int body = A + B + 28 + 4 * 8;
        int endOfFirst = (head + body) % 256;
        x.block(Given.block(A, B, 12, 9, 9, 9, 9, 9));
        x.block(Given.block(A, B, 28, 8, 8, 8, 8, endOfFirst));
        x.block(Given.block(A, B, 12, 9, 9, 9, 9, 9));
        int endOfSecond = (head + 7 * 4) % 256;
        x.block(Given.block(4, 4, 4, 4, 4, 4, 4, endOfSecond));
        int all = body + endOfFirst + head + 7 * 4 + endOfSecond + 7 * 5;
        x.block(Given.block(5, 5, 5, 5, 5, 5, 5, all % 256));
        Due.same("files", x.search(), 4);
        Given.fileIs(x, 0, 0, 0, 1);
        Given.fileIs(x, 1, 0, 1, 2, 3, 4);
        Given.fileIs(x, 2, 0, 2, 1);
        Given.fileIs(x, 3, 0, 2, 3);
        Given.bestIs(x, 4, 0, 1);
        Given.nobodyIs(x, 0);
    }

    private static void firstOne() {
        RescueBench x = new RescueBench();
        Given.openMake(x, A, B, Given.SUM);
        Given.openMake(x, A, B, Given.XOR);
        long end = Given.block(A + B);
        x.block(end);
        x.block(Given.block(A, B, 0, 3));
        x.block(Given.block(A, B, 0, 3));
        Due.same("each block for two makes", x.search(), 4);
        Given.bestIs(x, 2, 0, 0, 2);
        Given.nobodyIs(x, 0);
        RescueBench y = Given.open(Given.SUM);
        y.block(Given.block(A, B, 5));
        y.block(Given.block(A, B, 5));
        y.block(Given.block(8));
        y.block(Given.block(8));
        Due.same("two for two", y.search(), 4);
        Due.same("cost of [0, 2]", y.file(0, 2), 1);
        Due.same("cost of [0, 3]", y.file(1, 2), 2);
        Due.same("cost of [1, 2]", y.file(2, 2), 0);
        Due.same("cost of [1, 3]", y.file(3, 2), 1);
        Given.bestIs(y, 4, 2, 0, 3);
        Given.nobodyIs(y);
    }

    private static void sixAndSevenFirstBlocks() {
        RescueBench x = Given.open(Given.SUM);
        Given.blocks(x, ALONE, 6);
        x.block(0);
        Due.same("six", x.search(), 6);
        Given.bestIs(x, 6, 0, 0, 1, 2, 3, 4, 5);
        Given.nobodyIs(x, 6);
        x.change(6, ALONE);
        x.block(0);
        Due.same("seven", x.search(), 7);
        Due.same("not told: best", x.best(), -1);
        Due.same("not told: cost", x.cost(), -1);
        Due.same("not told: covers", x.covers(0), -1);
        Due.same("not told: nobody", x.nobody(0), -1);
        x.change(0, 0);
        Due.same("nor by a change", x.best(), -1);
        Due.same("six again", x.search(), 6);
        Given.bestIs(x, 6, 0, 0, 1, 2, 3, 4, 5);
        Given.nobodyIs(x, 0, 7);
        Given.openMake(x, A, B, Given.XOR);
        Due.same("twelve files with six first blocks", x.search(), 12);
        Given.bestIs(x, 6, 0, 0, 2, 4, 6, 8, 10);
    }

    private static void ofTheLatestSearch() {
        RescueBench x = Given.open(Given.SUM);
        x.block(0);
        x.block(ALONE);
        x.search();
        x.block(0);
        x.block(ALONE);
        x.change(1, 0);
        Given.bestIs(x, 1, 0, 0);
        Given.nobodyIs(x, 0);
        x.search();
        Given.bestIs(x, 1, 0, 0);
        Given.nobodyIs(x, 0, 1, 2);
        x.goals(0, 0);
        x.search();
        Given.bestIs(x, 0, 0);
        Given.nobodyIs(x, 0, 1, 2, 3);
    }

    private static void nobodyAheadOfASearch() {
        RescueBench x = Given.open(Given.SUM);
        Given.blocks(x, ALONE, 3);
        Given.bestIs(x, 0, 0);
        Given.nobodyIs(x);
        x.torn(0);
        Given.bestIs(x, 0, 0);
        Given.nobodyIs(x);
        Due.same("nobody of the least", x.nobody(Integer.MIN_VALUE), -1);
        Due.same("covers of the most", x.covers(Integer.MAX_VALUE), -1);
    }
}
