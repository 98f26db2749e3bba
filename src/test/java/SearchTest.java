/** Promises 11 to 14: what is found, what is told of it, and what is torn. */
public final class SearchTest {
    private static final int A = 1;
    private static final int B = 2;

    public static void main(String[] args) {
        oneBlock();
        dataThatEndWithABlock();
        dataThatDoNotEnd();
        orderAndMakes();
        reachEitherWay();
        unlikeBlocks();
        asItWas();
        manyFiles();
        manyLooks();
        looksAtTheLimit();
        tornLooks();
        wrongNumbers();
        Due.end();
    }

    private static void oneBlock() {
        RescueBench x = Given.open(Given.SUM);
        long[] none = {
            Given.block(A, B, 1, 9, 14),
            Given.block(A, B, 1, 9, 13, 1),
            Given.block(A, B, 1, 9, 13, 0, 0, 1),
            Given.block(B, A, 1, 9, 13),
            Given.block(A, A, 1, 9, 12),
            Given.block(A, B, 37, 1, 1, 1, 1, 1),
            Given.block(A, B, 255, 1, 1, 1, 1, 1),
        };
        for (long bytes : none) {
            x.block(bytes);
        }
        Due.same("none is a file", x.search(), 0);
        Due.same("looks", x.count(5), 7);
        for (int i = 0; i < none.length; i++) {
            Due.same("torn(" + i + ")", x.torn(i), 0);
        }
        x.change(3, Given.block(A, B, 1, 9, 13));
        Due.same("a file", x.search(), 1);
        Given.fileIs(x, 0, 0, 3);
        Due.same("torn of a file", x.torn(3), 1);
        RescueBench y = Given.open(Given.SUM);
        y.block(Given.block(A, B, 36, 9, 9, 9, 9, 9));
        Due.same("length 36 fits", y.torn(0), 1);
        Due.same("but is no file", y.search(), 0);
    }

    /** Data end with the first block: they must be right there, though their check is in the next one. */
    private static void dataThatEndWithABlock() {
        RescueBench x = new RescueBench();
        x.make(A, B, Given.SUM);
        x.edge(0, 0, 0, 255, 1);
        x.edge(0, 1, 0, 255, 0);
        x.goals(0, 1);
        x.block(Given.block(A, B, 5, 0, 0, 0, 0, 0));
        x.block(Given.block(8));
        Due.same("five data end in state 1", x.search(), 0);
        Due.same("no look behind that", x.count(5), 2);
        Due.same("torn", x.torn(0), 0);
        x.goals(0, 2);
        Due.same("state 1 is a goal", x.search(), 1);
        Due.same("one look behind that", x.count(5), 3);
        Given.fileIs(x, 0, 0, 0, 1);
        x.change(1, Given.block(8, 0, 0, 1));
        Due.same("a byte behind the check", x.search(), 0);
        Due.same("torn behind the first", x.torn(0), 1);
    }

    private static void dataThatDoNotEnd() {
        RescueBench x = new RescueBench();
        x.make(A, B, Given.SUM);
        x.edge(0, 0, 1, 1, 3);
        x.edge(0, 3, 1, 1, 3);
        x.block(Given.block(A, B, 36, 1, 1, 1, 1, 1));
        Due.same("no goal at all, but states", x.torn(0), 1);
        x.change(0, Given.block(A, B, 36, 1, 1, 1, 1, 2));
        Due.same("no state", x.torn(0), 0);
        x.change(0, Given.block(A, B, 36, 1, 1, 1, 1, 1));
        x.block(Given.block(1, 1, 1, 1, 1, 1, 1, 1));
        x.block(Given.block(1, 1, 1, 1, 1, 1, 1, 1));
        x.block(Given.block(1, 1, 1, 1, 1, 1, 1, 1));
        Due.same("four fit", x.torn(0), 4);
        Due.same("only the head begins", x.torn(1), 0);
        x.block(Given.block(1, 1, 1, 1, 1, 1, 1, 75));
        Due.same("the check is right, but no goal", x.torn(0), 4);
        x.goals(0, 8);
        Due.same("with a goal", x.torn(0), 5);
        Due.same("six orders of those in the middle", x.search(), 6);
        Due.same("cost of the first", x.file(0, 2), 0);
        Due.same("length", x.file(0, 1), 36);
        Due.same("last data", x.data(5, 35), 1);
        Given.fileIs(x, 5, 0, 0, 3, 2, 1, 4);
        Due.same("cost of the last", x.file(5, 2), 2 + 2 + 2 + 2);
    }

    private static void orderAndMakes() {
        RescueBench x = new RescueBench();
        Given.openMake(x, A, B, Given.XOR);
        Given.openMake(x, A, B, Given.SUM);
        Given.openMake(x, 7, 7, Given.SUM);
        long twoBlocks = Given.block(A, B, 8, 0, 0, 0, 0, 0);
        long end = Given.block(0, 0, 0, 11);
        x.block(end);
        x.block(twoBlocks);
        x.block(end);
        x.block(Given.block(7, 7, 1, 0, 15));
        x.block(Given.block(A, B, 4, 0, 0, 0, 3, 10));
        Due.same("files", x.search(), 6);
        Given.fileIs(x, 0, 0, 1, 0);
        Given.fileIs(x, 1, 1, 1, 0);
        Given.fileIs(x, 2, 0, 1, 2);
        Given.fileIs(x, 3, 1, 1, 2);
        Given.fileIs(x, 4, 2, 3);
        Given.fileIs(x, 5, 1, 4);
        int[] sure = {0, 0, 0, 0, 1, 1};
        for (int k = 0; k < sure.length; k++) {
            Due.same("sure " + k, x.file(k, 3), sure[k]);
        }
        Due.same("looks", x.count(5), 3 * 5 + 4 + 4);
    }

    private static void reachEitherWay() {
        for (int reach = 1; reach <= 23; reach++) {
            RescueBench x = Given.open(Given.SUM);
            x.reach(reach);
            Given.blocks(x, -1, 24);
            x.change(12, Given.block(A, B, 5, 0, 0, 0, 0, 0));
            int above = Math.min(23, 12 + reach);
            int below = Math.max(0, 12 - reach);
            x.change(above, Given.block(8));
            x.change(below, Given.block(8));
            Due.same("within reach " + reach, x.search(), 2);
            Due.same("looks", x.count(5), 24 + above - below);
            Given.fileIs(x, 0, 0, 12, below);
            Given.fileIs(x, 1, 0, 12, above);
            Due.same("cost down", x.file(0, 2), 13 - below);
            Due.same("cost up", x.file(1, 2), above - 13);
            Due.same("torn", x.torn(12), 2);
            if (reach > 1) {
                x.reach(reach - 1);
                boolean atTheEnds = reach >= 12;
                Due.same("torn within less", x.torn(12), atTheEnds ? 2 : 1);
                Due.same("files stay", x.count(3), 2);
            }
        }
    }

    /** A block of a row is not taken again, even where its bytes would fit. */
    private static void unlikeBlocks() {
        RescueBench x = Given.open(Given.XOR);
        x.block(Given.block(A, B, 13, 0, 0, 0, 0, 0));
        x.block(Given.block(A, B, 13, 0, 0, 0, 0, 0));
        x.block(Given.block(0));
        Due.same("check of three blocks", x.search(), 2);
        Given.fileIs(x, 0, 0, 0, 1, 2);
        Given.fileIs(x, 1, 0, 1, 0, 2);
        Due.same("cost up", x.file(0, 2), 0);
        Due.same("cost down and up", x.file(1, 2), 2 + 1);
        Due.same("sure, though the other has its first block further on", x.file(0, 3), 1);
        Due.same("so is the other", x.file(1, 3), 1);
        Due.same("looks", x.count(5), 3 + 2 * (2 + 1 + 1));
    }

    private static void asItWas() {
        RescueBench x = Given.open(Given.SUM);
        Given.push(x, 5, 6, 7);
        x.write(0);
        x.search();
        x.change(0, 0);
        x.block(Given.block(A, B, 0, 3));
        x.goals(0, 0);
        x.reach(1);
        Due.same("files", x.count(3), 1);
        Due.same("looks", x.count(5), 1);
        Given.fileIs(x, 0, 0, 0);
        Due.same("length", x.file(0, 1), 3);
        Due.same("data", x.data(0, 2), 7);
        Due.same("torn of the disk as it is", x.torn(0), 0);
        Due.same("none with no goals", x.search(), 0);
        Due.outOfBounds("then no file", () -> x.file(0, 0));
        x.goals(0, 1);
        Due.same("the new one", x.search(), 1);
        Given.fileIs(x, 0, 0, 1);
        Due.same("its length", x.file(0, 1), 0);
    }

    private static RescueBench twentyEndsForTwoMakes() {
        RescueBench x = new RescueBench();
        Given.openMake(x, A, B, Given.SUM);
        Given.openMake(x, A, B, Given.SUM);
        x.reach(23);
        x.block(Given.block(A, B, 5, 0, 0, 0, 0, 0));
        Given.blocks(x, Given.block(8), 20);
        return x;
    }

    private static void manyFiles() {
        RescueBench x = twentyEndsForTwoMakes();
        Due.same("40 files", x.search(), 40);
        Given.fileIs(x, 0, 0, 0, 1);
        Given.fileIs(x, 39, 1, 0, 20);
        Due.outOfBounds("file 40", () -> x.file(40, 0));
        Given.openMake(x, 7, 7, Given.SUM);
        x.block(Given.block(7, 7, 0, 14));
        Due.same("41 files", x.search(), -1);
        Due.same("then there are none", x.count(3), 0);
        Due.outOfBounds("no file 0", () -> x.file(0, 0));
        Due.outOfBounds("no data", () -> x.data(0, 0));
        Due.same("looks are told", x.count(5), 3 * 22 + 2 * 21);
        Due.same("torn does not mind", x.torn(0), 2);
        Given.bestIs(x, 0, 0);
        Due.same("all blocks are nobody's", x.nobody(21), 21);
        Due.same("and no more", x.nobody(22), -1);
        x.change(21, 0);
        Due.same("40 files again", x.search(), 40);
    }

    private static RescueBench longRows(int firsts, int others) {
        RescueBench x = Given.open(Given.SUM);
        x.reach(23);
        Given.blocks(x, Given.block(A, B, 28, 9, 9, 9, 9, 9), firsts);
        Given.blocks(x, Given.block(9, 9, 9, 9, 9, 9, 9, 9), others);
        return x;
    }

    private static void manyLooks() {
        RescueBench x = longRows(1, 23);
        Due.same("no file", x.search(), 0);
        Due.same("looks of one first block", x.count(5), 24 + 23 + 23 * 22 + 23 * 22 * 21);
        Due.same("torn", x.torn(0), 3);
        RescueBench y = longRows(2, 22);
        y.change(23, Given.block(A, B, 0, 3));
        Due.same("looks of two", y.search(), -2);
        Due.same("more than 20,000", y.count(5), 20001);
        Due.same("no files", y.count(3), 0);
        Given.bestIs(y, 0, 0);
        Due.same("nobody's", y.nobody(23), 23);
        Due.same("torn has looks of its own", y.torn(0), 3);
        Due.same("torn of the other", y.torn(23), 1);
        y.reach(3);
        Due.same("with less reach", y.search(), 1);
        RescueBench z = twentyEndsForTwoMakes();
        z.change(0, Given.block(A, B, 36, 9, 9, 9, 9, 9));
        z.change(1, Given.block(A, B, 5, 0, 0, 0, 0, 0));
        z.change(2, Given.block(A, B, 5, 0, 0, 0, 0, 0));
        z.change(3, Given.block(A, B, 5, 0, 0, 0, 0, 0));
        Due.same("-2 is asked ahead of -1", z.search(), -2);
    }

    /** Disks that were sought out for just so many looks. */
    private static void looksAtTheLimit() {
        RescueBench x = disk("DDNDFDDDDFDDDDD", 8, 36);
        Due.same("20,000 looks", x.search(), 0);
        Due.same("are told", x.count(5), 20000);
        RescueBench y = disk("DDDFDDNFNFDDF", 9, 36);
        Due.same("20,001 looks", y.search(), -2);
        Due.same("are too many", y.count(5), 20001);
        RescueBench z = disk("NDDDNDFDNDDDDDDDDDD", 10, 36);
        Due.same("20,000 looks of torn", z.torn(6), 4);
        RescueBench w = disk("DDDDDDDDDNNDDDDDDDNFD", 11, 36);
        Due.same("20,001 looks of torn", w.torn(19), -1);
    }

    /** F: a block that begins a file of this length, and is data as well; D: data; N: neither. */
    private static RescueBench disk(String kinds, int reach, int length) {
        RescueBench x = new RescueBench();
        x.make(A, B, Given.SUM);
        x.edge(0, 0, 0, 100, 0);
        x.goals(0, 1);
        x.reach(reach);
        for (char kind : kinds.toCharArray()) {
            x.block(kind == 'F' ? Given.block(A, B, length, 9, 9, 9, 9, 9)
                    : kind == 'D' ? Given.block(9, 9, 9, 9, 9, 9, 9, 9)
                    : -1);
        }
        return x;
    }

    private static void tornLooks() {
        RescueBench x = longRows(1, 23);
        Given.openMake(x, A, B, Given.XOR);
        Due.same("two makes look too much", x.torn(0), -1);
        Due.same("another first block", x.torn(1), 0);
        x.reach(4);
        Due.same("with less reach", x.torn(0), 3);
        Due.same("torn is no search", x.count(5), 0);
    }

    private static void wrongNumbers() {
        RescueBench x = Given.open(Given.SUM);
        x.push(1);
        x.write(0);
        x.search();
        Due.badArgument("file(0, -1)", () -> x.file(0, -1));
        Due.badArgument("file(0, least)", () -> x.file(0, Integer.MIN_VALUE));
        Due.outOfBounds("the file is asked first", () -> x.file(1, -1));
        Due.outOfBounds("file(-1, 0)", () -> x.file(-1, 0));
        Due.same("file(0, 10)", x.file(0, 10), -1);
        Due.same("file(0, most)", x.file(0, Integer.MAX_VALUE), -1);
        Due.outOfBounds("data(1, 0)", () -> x.data(1, 0));
        Due.outOfBounds("data(-1, 0)", () -> x.data(-1, 0));
        Due.same("data(0, -1)", x.data(0, -1), -1);
        Due.same("data(0, 1)", x.data(0, 1), -1);
        Due.same("data(0, most)", x.data(0, Integer.MAX_VALUE), -1);
        Due.outOfBounds("torn(1)", () -> x.torn(1));
        Due.outOfBounds("torn(-1)", () -> x.torn(-1));
    }
}
