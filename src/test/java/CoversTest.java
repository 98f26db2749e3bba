/** The terms of covers: which cover is the best, when it is not told, and whose blocks are nobody's. */
public final class CoversTest {
    private static final int A = 1;
    private static final int B = 2;
    private static final long ALONE = Given.block(A, B, 0, A + B);
    private static final long HEAD = Given.block(A, B, 5);
    private static final long END = Given.block(A + B + 5);

    public static void main(String[] args) {
        noBlockInCommon();
        mostBlocks();
        leastCost();
        fewestFiles();
        firstOne();
        notTold();
        nobodys();
        Due.end();
    }

    private static RescueBench bench(int reach, long... blocks) {
        RescueBench x = Given.open(Given.SUM);
        x.reach(reach);
        for (long bytes : blocks) {
            x.block(bytes);
        }
        x.search();
        return x;
    }

    /** Seen by what the best cover leaves out: with it there would be more blocks. */
    private static void noBlockInCommon() {
        Due.by("A COVER: FILES of which no two have a BLOCK in common.");
        RescueBench first = bench(4, HEAD, END, END);
        Due.same("two files with one first block", first.count(3), 2);
        Given.bestIs(first, 2, 0, 0);
        RescueBench last = bench(4, HEAD, HEAD, END);
        Due.same("two files with one last block", last.count(3), 2);
        Given.bestIs(last, 2, 0, 1);
        RescueBench apart = bench(4, HEAD, HEAD, END, END);
        Due.same("four files", apart.count(3), 4);
        Given.bestIs(apart, 4, 2, 0, 3);
        RescueBench inside = threeAgainstTwo();
        Due.same("one's first block is the other's last", inside.count(3), 2);
        Given.bestIs(inside, 3, 0, 1);
        RescueBench makes = bench(4, ALONE, ALONE);
        Given.openMake(makes, A, B, Given.XOR);
        makes.search();
        Due.same("two makes of each block", makes.count(3), 4);
        Given.bestIs(makes, 2, 0, 0, 2);
    }

    /** The file [0, 1] and, begun by the same block 1, the file [1, 2, 3]. */
    private static RescueBench threeAgainstTwo() {
        int end = Given.checkOf(Given.SUM, A, B, 12, 5 * 9, A, B, 20, 4 * 9);
        int last = Given.checkOf(Given.SUM, A, B, 20, 4 * 9, end, 8 * 5, 7 * 6);
        return bench(1, Given.block(A, B, 12, 9, 9, 9, 9, 9), Given.block(A, B, 20, 9, 9, 9, 9, end),
                Given.block(Given.many(5, 8)), Given.block(6, 6, 6, 6, 6, 6, 6, last));
    }

    private static void mostBlocks() {
        Due.by("BEST: of all COVERS of the latest SEARCH those with the most BLOCKS in all;");
        RescueBench x = threeAgainstTwo();
        Given.fileIs(x, 0, 0, 0, 1);
        Given.fileIs(x, 1, 0, 1, 2, 3);
        Given.bestIs(x, 3, 0, 1);
        // Two blocks, [1, 2], would cost nothing; four cost something, but are more.
        RescueBench y = bench(23, HEAD, HEAD, END, Given.JUNK, Given.JUNK, END);
        Due.same("files", y.count(3), 4);
        Given.bestIs(y, 4, 4, 0, 3);
        RescueBench z = bench(4, Given.JUNK);
        Given.bestIs(z, 0, 0);
        RescueBench all = bench(4, ALONE, ALONE, ALONE, HEAD, END);
        Given.bestIs(all, 5, 0, 0, 1, 2, 3);
        twoAgainstThree();
        ofTheLatestSearch();
    }

    /** The file [0, 2, 3] has the most blocks of one; but [1, 2] and [4, 3], which it stands in the way of, more. */
    private static void twoAgainstThree() {
        RescueBench x = Given.open(Given.SUM);
        Given.openMake(x, 3, 4, Given.XOR);
        int end = 3 ^ 4 ^ 5;
        int last = Given.checkOf(Given.SUM, A, B, 20, end, 7 * 9);
        x.block(Given.block(A, B, 20));
        x.block(Given.block(3, 4, 5));
        x.block(Given.block(end));
        x.block(Given.block(9, 9, 9, 9, 9, 9, 9, last));
        x.block(Given.block(A, B, 12, 20 + end - 12));
        Due.same("files", x.search(), 3);
        Given.fileIs(x, 0, 0, 0, 2, 3);
        Given.fileIs(x, 1, 1, 1, 2);
        Given.fileIs(x, 2, 0, 4, 3);
        Given.bestIs(x, 4, 2, 1, 2);
        Given.nobodyIs(x, 0);
    }

    /** Nothing of an earlier search with more first blocks is left. */
    private static void ofTheLatestSearch() {
        RescueBench x = bench(4, ALONE, ALONE, ALONE, ALONE, ALONE, ALONE);
        Given.bestIs(x, 6, 0, 0, 1, 2, 3, 4, 5);
        x.change(0, HEAD);
        x.change(1, HEAD);
        for (int block = 2; block < 6; block++) {
            x.change(block, block < 4 ? END : Given.JUNK);
        }
        Given.bestIs(x, 6, 0, 0, 1, 2, 3, 4, 5);
        Due.same("files", x.search(), 4);
        Given.bestIs(x, 4, 2, 0, 3);
        x.change(1, Given.JUNK);
        Due.same("fewer files", x.search(), 2);
        Given.bestIs(x, 2, 1, 0);
        x.change(0, Given.JUNK);
        Due.same("no files", x.search(), 0);
        Given.bestIs(x, 0, 0);
    }

    private static void leastCost() {
        Due.by("of these those with the least COST together;");
        RescueBench x = bench(4, END, END, HEAD, Given.JUNK, END);
        Due.same("files", x.count(3), 3);
        int[] costs = {3, 2, 1};
        for (int k = 0; k < costs.length && k < x.count(3); k++) {
            Due.same("cost of file " + k, x.file(k, 2), costs[k]);
        }
        Given.bestIs(x, 2, 1, 2);
        // [0, 1] and [2, 4] cost 1, [0, 4] and [2, 1] cost 5.
        RescueBench y = bench(23, HEAD, END, HEAD, Given.JUNK, END);
        Given.bestIs(y, 4, 1, 0, 3);
        // The least of one file, [4, 6] for 1, would leave [7, 2] for 6; together [4, 2] and [7, 6] cost less.
        RescueBench z = bench(5, Given.JUNK, Given.JUNK, END, Given.JUNK, HEAD, Given.JUNK, END, HEAD);
        Due.same("files", z.count(3), 4);
        Given.bestIs(z, 4, 5, 0, 3);
    }

    /** Two files of two blocks are ahead in order, one of four has as many blocks at the same cost. */
    private static void fewestFiles() {
        Due.by("of these the one with the fewest FILES;");
        int head = A + B + 12 + 5 * 9;
        int body = A + B + 28 + 4 * 8;
        int endOfFirst = (head + body) % 256;
        int endOfSecond = (head + 7 * 4) % 256;
        int all = body + endOfFirst + head + 7 * 4 + endOfSecond + 7 * 5;
        RescueBench x = bench(1, Given.block(A, B, 12, 9, 9, 9, 9, 9), Given.block(A, B, 28, 8, 8, 8, 8, endOfFirst),
                Given.block(A, B, 12, 9, 9, 9, 9, 9), Given.block(4, 4, 4, 4, 4, 4, 4, endOfSecond),
                Given.block(5, 5, 5, 5, 5, 5, 5, all % 256));
        Due.same("files", x.count(3), 4);
        Given.fileIs(x, 0, 0, 0, 1);
        Given.fileIs(x, 1, 0, 1, 2, 3, 4);
        Given.fileIs(x, 2, 0, 2, 1);
        Given.fileIs(x, 3, 0, 2, 3);
        Given.bestIs(x, 4, 0, 1);
        Given.nobodyIs(x, 0);
        // Cost is asked ahead of it: with a block between the last two, the file of four costs 1.
        RescueBench y = bench(2, x.bytes(0), x.bytes(1), x.bytes(2), x.bytes(3), Given.JUNK, x.bytes(4));
        boolean four = false;
        for (int k = 0; k < y.count(3); k++) {
            four |= y.file(k, 4) == 4 && y.file(k, 2) == 1;
        }
        Due.holds("that there is a file of four for 1", four);
        Due.same("blocks", y.best(), 4);
        Due.same("cost", y.cost(), 0);
        Due.holds("that the best cover has two files", y.covers(1) != -1 && y.covers(2) == -1);
    }

    private static void firstOne() {
        Due.by("of these the first one (FILES rising; by the first, the second, and so on).");
        RescueBench x = bench(4, HEAD, HEAD, END, END);
        Due.same("cost of [0, 2]", x.file(0, 2), 1);
        Due.same("cost of [0, 3]", x.file(1, 2), 2);
        Due.same("cost of [1, 2]", x.file(2, 2), 0);
        Due.same("cost of [1, 3]", x.file(3, 2), 1);
        Given.bestIs(x, 4, 2, 0, 3);
        RescueBench makes = Given.open(Given.SUM);
        for (int i = 0; i < 5; i++) {
            Given.openMake(makes, A, B, Given.SUM);
        }
        Given.blocks(makes, ALONE, 6);
        makes.search();
        Due.same("six makes of six blocks", makes.count(3), 36);
        Given.bestIs(makes, 6, 0, 0, 6, 12, 18, 24, 30);
        // [1, 0] for 2 and [1, 4] for 2: the first one.
        RescueBench ways = bench(4, END, HEAD, Given.JUNK, Given.JUNK, END);
        Due.same("ways", ways.count(3), 2);
        Given.bestIs(ways, 2, 2, 0);
    }

    private static void notTold() {
        Due.by("It is not told, if FILES have more than 6 first BLOCKS.");
        RescueBench x = bench(4, ALONE, ALONE, ALONE, ALONE, ALONE, ALONE, Given.JUNK, Given.JUNK);
        Given.bestIs(x, 6, 0, 0, 1, 2, 3, 4, 5);
        Given.nobodyIs(x, 6, 7);
        x.change(6, ALONE);
        Due.same("ahead of the next search", x.best(), 6);
        Due.same("seven", x.search(), 7);
        Given.bestIs(x, -1, -1);
        Given.nobodyIs(x);
        x.change(0, Given.JUNK);
        Due.same("still of the latest search", x.best(), -1);
        Due.same("six again", x.search(), 6);
        Given.bestIs(x, 6, 0, 0, 1, 2, 3, 4, 5);
        Given.nobodyIs(x, 0, 7);
        Given.openMake(x, A, B, Given.XOR);
        Due.same("twelve files with six first blocks", x.search(), 12);
        Given.bestIs(x, 6, 0, 0, 2, 4, 6, 8, 10);
        x.change(7, HEAD);
        x.block(END);
        Due.same("a seventh one with two blocks", x.search(), 13);
        Given.bestIs(x, -1, -1);
        RescueBench many = bench(23);
        for (int i = 0; i < 24; i++) {
            many.block(i % 4 == 0 ? ALONE : Given.JUNK);
        }
        many.search();
        Due.same("six of 24 blocks", many.best(), 6);
        many.change(23, ALONE);
        many.search();
        Due.same("seven of them", many.best(), -1);
    }

    private static void nobodys() {
        Due.by("NOBODY's are the BLOCKS, of those that were there, that are in no FILE of BEST.");
        RescueBench x = bench(4, END, HEAD, END, ALONE, Given.JUNK);
        Given.bestIs(x, 3, 0, 1, 2);
        Given.nobodyIs(x, 0, 4);
        x.block(Given.JUNK);
        x.block(ALONE);
        Given.nobodyIs(x, 0, 4);
        x.change(1, Given.JUNK);
        Given.nobodyIs(x, 0, 4);
        x.search();
        Given.nobodyIs(x, 0, 1, 2, 4, 5);
        x.goals(0, 0);
        x.search();
        Given.nobodyIs(x, 0, 1, 2, 3, 4, 5, 6);
        RescueBench none = Given.open(Given.SUM);
        none.block(Given.JUNK);
        Given.nobodyIs(none);
        RescueBench all = bench(4, ALONE, ALONE);
        Given.nobodyIs(all);
        RescueBench empty = bench(4);
        Given.nobodyIs(empty);
        RescueBench disk = new RescueBench();
        Given.blocks(disk, 0, 24);
        disk.search();
        Due.same("the last of 24", disk.nobody(23), 23);
        Due.same("and no more", disk.nobody(24), -1);
    }
}
