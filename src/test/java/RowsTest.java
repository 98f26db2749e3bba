/** The terms of rows: what fits, what is a file, looks, search and its limits, cost, sure and torn. */
public final class RowsTest {
    private static final int A = 1;
    private static final int B = 2;
    private static final long ALONE = Given.block(A, B, 0, A + B);
    /** The first block of a file of two, and its second one, by SUM. */
    private static final long HEAD = Given.block(A, B, 5);
    private static final long END = Given.block(A + B + 5);

    public static void main(String[] args) {
        unlikeBlocks();
        reach();
        fits();
        dataSoFar();
        wholeFiles();
        looksOfFirstBlocks();
        looksOfNextBlocks();
        order();
        orderOfEnds();
        orderOfMakes();
        tooManyLooks();
        tooManyFiles();
        cost();
        asItWas();
        sure();
        torn();
        tornTooLong();
        Due.end();
    }

    private static void unlikeBlocks() {
        Due.by("A ROW of a MAKE: unlike BLOCKS one behind another,");
        // By XOR the first two blocks, being alike in their bytes, leave a check of 0.
        long twice = Given.block(A, B, 13);
        RescueBench x = Given.open(Given.XOR);
        x.block(twice);
        x.block(0);
        Due.same("a block does not come twice", x.search(), 0);
        Due.same("so the row ends behind the other one", x.torn(0), 2);
        x.block(twice);
        Due.same("with one more of the same bytes", x.search(), 2);
        Given.fileIs(x, 0, 0, 0, 2, 1);
        Given.fileIs(x, 1, 0, 2, 0, 1);
    }

    private static RescueBench twoBlocks(int first, int second) {
        RescueBench x = Given.open(Given.SUM);
        Given.blocks(x, Given.JUNK, 24);
        x.change(first, HEAD);
        x.change(second, END);
        return x;
    }

    private static void reach() {
        Due.by("each next one's number at most REACH (1 to 23, 4 at first) away from the one ahead (either way).");
        for (int far = 1; far <= 23; far++) {
            int[][] rows = {{0, far}, {23, 23 - far}, {23 - far, 23}, {far, 0}};
            for (int[] row : rows) {
                RescueBench x = twoBlocks(row[0], row[1]);
                Due.same("at first, " + far + " away", x.search(), far <= 4 ? 1 : 0);
                x.reach(far);
                Due.same("reach " + far, x.search(), 1);
                Given.fileIs(x, 0, 0, row[0], row[1]);
                Due.same("torn within it", x.torn(row[0]), 2);
                if (far > 1) {
                    x.reach(far - 1);
                    Due.same("reach " + (far - 1) + ", " + far + " away", x.search(), 0);
                    Due.same("torn beyond it", x.torn(row[0]), 1);
                }
                x.reach(23);
                Due.same("reach 23", x.search(), 1);
            }
        }
        RescueBench y = Given.open(Given.SUM);
        Given.blocks(y, Given.JUNK, 24);
        long[] three = Given.fileOf(A, B, Given.SUM, Given.many(9, 20));
        y.change(4, three[0]);
        y.change(8, three[1]);
        y.change(12, three[2]);
        Due.same("4 from the one ahead, 8 from the first", y.search(), 1);
        y.change(12, Given.JUNK);
        y.change(3, three[2]);
        Due.same("5 from the one ahead, 1 from the first", y.search(), 0);
        y.reach(5);
        Due.same("within 5", y.search(), 1);
        Given.fileIs(y, 0, 0, 4, 8, 3);
    }

    private static void fits() {
        Due.by("It FITS, if its bytes, in order, are the beginning of a FILE's of this MAKE as far as they go,");
        RescueBench x = new RescueBench();
        x.make(A, B, Given.SUM);
        x.edge(0, 0, 1, 1, 0);
        x.edge(0, 0, 2, 2, 1);
        x.edge(0, 1, 2, 2, 1);
        x.goals(0, 2);
        long ones = Given.block(Given.many(1, 8));
        long twos = Given.block(Given.many(2, 8));
        x.block(Given.block(A, B, 28, 1, 1, 1, 1, 1));
        Due.same("a beginning", x.torn(0), 1);
        x.block(twos);
        Due.same("two blocks", x.torn(0), 2);
        Due.same("what begins no file", x.torn(1), 0);
        x.block(ones);
        Due.same("three blocks, in order 0, 2, 1 alone", x.torn(0), 3);
        x.change(1, ones);
        x.change(2, ones);
        Due.same("in order 0, 1, 2", x.torn(0), 3);
        x.block(Given.block(2, 2, 2, 2, 2, 2, 2, 0));
        Due.same("but with no right check", x.torn(0), 3);
        Due.same("so it is no file", x.search(), 0);
        x.change(3, Given.block(2, 2, 2, 2, 2, 2, 2, Given.checkOf(Given.SUM, A, B, 28, 21, 14)));
        Due.same("with its check", x.torn(0), 4);
        Due.same("and the other order of those in the middle", x.search(), 2);
        int[][] wrong = {{B, B, 28}, {A, A, 28}, {A, B, 37}, {A, B, 28, 3}, {A, B, 28, 1, 1, 1, 1, 0}};
        for (int[] bytes : wrong) {
            x.change(0, Given.block(bytes));
            Due.same("no beginning", x.torn(0), 0);
        }
    }

    private static void dataSoFar() {
        Due.by("where DATA that do not end yet are right so far if any STATE can be there (LENGTH is asked as it is"
                + " told).");
        RescueBench x = new RescueBench();
        x.make(A, B, Given.SUM);
        x.edge(0, 0, 9, 9, 1);
        x.edge(0, 1, 9, 9, 0);
        x.block(0);
        for (int length = 6; length <= 36; length++) {
            x.change(0, Given.block(A, B, length, 9, 9, 9, 9, 9));
            Due.same("no goal, but a state: length " + length, x.torn(0), 1);
        }
        RescueBench y = new RescueBench();
        y.make(A, B, Given.SUM);
        y.edge(0, 0, 9, 9, 1);
        y.edge(0, 1, 9, 9, 0);
        y.block(Given.block(A, B, 5, 9, 9, 9, 9, 9));
        Due.same("five end here, in no goal", y.torn(0), 0);
        y.goals(0, 1);
        Due.same("state 0 is a goal, they end in 1", y.torn(0), 0);
        y.goals(0, 2);
        Due.same("a goal is where they end", y.torn(0), 1);
        y.goals(0, 1);
        y.change(0, Given.block(A, B, 6, 9, 9, 9, 9, 9));
        Due.same("six do not end yet", y.torn(0), 1);
        y.change(0, Given.block(A, B, 6, 9, 9, 9, 9, 8));
        Due.same("no state can be there", y.torn(0), 0);
        y.change(0, Given.block(A, B, 36, 9, 9, 9, 9, 9));
        Due.same("length 36, with no room for its file", y.torn(0), 1);
        y.change(0, Given.block(A, B, 37, 9, 9, 9, 9, 9));
        Due.same("length 37 is asked at once", y.torn(0), 0);
        y.change(0, Given.block(A, B, 36, 9, 9, 9, 9, 9));
        y.block(Given.block(9, 9, 9, 9, 9, 9, 9, 9));
        y.block(Given.block(9, 9, 9, 9, 9, 9, 9, 8));
        Due.same("no state at the end of the second block", y.torn(0), 2);
        y.change(2, y.bytes(1));
        Due.same("a state at its end", y.torn(0), 3);
    }

    private static void wholeFiles() {
        Due.by("It is a FILE, if it FITS, and has all of its BLOCKS, and its last one is the last of it.");
        for (int length = 0; length <= 36; length++) {
            RescueBench x = Given.open(Given.CRC);
            x.reach(1);
            int[] data = new int[length];
            for (int i = 0; i < length; i++) {
                data[i] = 60 + i;
            }
            long[] blocks = Given.fileOf(A, B, Given.CRC, data);
            for (int i = 0; i < blocks.length; i++) {
                Due.same("length " + length + " with " + i + " blocks", x.search(), 0);
                x.block(blocks[i]);
            }
            Due.same("length " + length + ", whole", x.search(), 1);
            x.block(0);
            x.block(0);
            Due.same("with blocks of zeros behind it", x.search(), 1);
            Due.same("they are not of it", x.count(3) == 1 ? x.file(0, 4) : 0, blocks.length);
            Due.same("nor do they fit", x.torn(0), blocks.length);
            if (blocks.length > 1) {
                x.change(blocks.length - 1, blocks[blocks.length - 1] ^ 1L << 63);
                Due.same("without its right end", x.search(), 0);
            }
        }
    }

    private static void looksOfFirstBlocks() {
        Due.by("LOOKS of a SEARCH: one for each MAKE and BLOCK (as the first one of a ROW),");
        int[] sizes = {0, 1, 2, 23, 24};
        for (int blocks : sizes) {
            RescueBench x = new RescueBench();
            Given.blocks(x, Given.JUNK, blocks);
            x.search();
            Due.same("no make", x.count(5), 0);
            for (int makes = 1; makes <= 6; makes++) {
                Given.openMake(x, A, B, Given.SUM);
                x.search();
                Due.same(makes + " makes, " + blocks + " blocks", x.count(5), makes * blocks);
            }
        }
        RescueBench y = Given.open(Given.SUM);
        y.make(A, B, Given.SUM);
        Given.blocks(y, ALONE, 3);
        y.search();
        Due.same("a file that is whole asks for no more", y.count(5), 6);
        y.search();
        Due.same("each search begins at 0", y.count(5), 6);
    }

    private static void looksOfNextBlocks() {
        Due.by("and one for each ROW that FITS and is not yet a FILE, and BLOCK that may come next.");
        for (int reach = 1; reach <= 23; reach++) {
            for (int at : new int[] {0, 1, 12, 22, 23}) {
                RescueBench x = Given.open(Given.SUM);
                Given.blocks(x, Given.JUNK, 24);
                x.change(at, HEAD);
                x.reach(reach);
                x.search();
                int next = Math.min(23, at + reach) - Math.max(0, at - reach);
                Due.same("behind block " + at + ", reach " + reach, x.count(5), 24 + next);
                Given.openMake(x, A, B, Given.XOR);
                x.search();
                Due.same("of two makes", x.count(5), 48 + 2 * next);
            }
        }
        RescueBench y = longRows(1, 23);
        Due.same("no file", y.search(), 0);
        Due.same("blocks that the row has come no more", y.count(5), 24 + 23 + 23 * 22 + 23 * 22 * 21);
        RescueBench z = twoBlocks(5, 6);
        z.search();
        Due.same("a file's row goes on no more", z.count(5), 24 + 8);
    }

    /** Heads of files of four blocks, and blocks that are data of them, but never their last. */
    private static RescueBench longRows(int firsts, int others) {
        RescueBench x = Given.open(Given.SUM);
        x.reach(23);
        Given.blocks(x, Given.block(A, B, 28, 9, 9, 9, 9, 9), firsts);
        Given.blocks(x, Given.block(9, 9, 9, 9, 9, 9, 9, 9), others);
        return x;
    }

    private static void order() {
        Due.by("SEARCH: all FILES of all MAKES, in order of their first BLOCK, then the second, and so on");
        RescueBench x = new RescueBench();
        x.make(A, B, Given.SUM);
        x.edge(0, 0, 1, 1, 0);
        x.edge(0, 0, 0, 0, 1);
        x.goals(0, 2);
        // Ones, then a 0: so the ends can come only last.
        int[] data = Given.many(1, 17);
        data[16] = 0;
        long[] three = Given.fileOf(A, B, Given.SUM, data);
        x.block(three[2]);
        x.block(three[1]);
        x.block(three[0]);
        x.block(three[2]);
        x.block(three[0]);
        x.block(three[1]);
        int[][] due = {{2, 1, 0}, {2, 1, 3}, {2, 5, 3}, {4, 1, 0}, {4, 1, 3}, {4, 5, 3}};
        x.reach(5);
        Due.same("with a reach of 5", x.search(), 8);
        int[][] dueThen = {{2, 1, 0}, {2, 1, 3}, {2, 5, 0}, {2, 5, 3}, {4, 1, 0}, {4, 1, 3}, {4, 5, 0}, {4, 5, 3}};
        for (int k = 0; k < dueThen.length; k++) {
            Given.fileIs(x, k, 0, dueThen[k]);
        }
        x.reach(4);
        Due.same("with a reach of 4", x.search(), due.length);
        for (int k = 0; k < due.length; k++) {
            Given.fileIs(x, k, 0, due[k]);
        }
    }

    /** Files with one first block have one LENGTH, so as many blocks: this order is seen only of first blocks. */
    private static void orderOfEnds() {
        Due.by("(a ROW that ends is ahead of one that goes on),");
        RescueBench x = Given.open(Given.SUM);
        x.block(HEAD);
        x.block(ALONE);
        x.block(END);
        x.block(ALONE);
        Due.same("files", x.search(), 3);
        Given.fileIs(x, 0, 0, 0, 2);
        Given.fileIs(x, 1, 0, 1);
        Given.fileIs(x, 2, 0, 3);
    }

    private static void orderOfMakes() {
        Due.by("then by MAKE.");
        RescueBench x = new RescueBench();
        Given.openMake(x, 7, 7, Given.SUM);
        Given.openMake(x, A, B, Given.XOR);
        Given.openMake(x, A, B, Given.SUM);
        x.block(Given.block(0, 0, 0, 11));
        x.block(Given.block(A, B, 8));
        x.block(Given.block(0, 0, 0, 11));
        x.block(Given.block(7, 7, 1, 0, 15));
        Due.same("files", x.search(), 5);
        Given.fileIs(x, 0, 1, 1, 0);
        Given.fileIs(x, 1, 2, 1, 0);
        Given.fileIs(x, 2, 1, 1, 2);
        Given.fileIs(x, 3, 2, 1, 2);
        Given.fileIs(x, 4, 0, 3);
        // The blocks are asked ahead of it: the second make's row is [0, 1], the first one's [0, 2].
        RescueBench y = Given.open(Given.SUM);
        Given.openMake(y, A, B, Given.XOR);
        y.block(Given.block(A, B, 5));
        y.block(Given.block(A ^ B ^ 5));
        y.block(Given.block(A + B + 5));
        Due.same("files", y.search(), 2);
        Given.fileIs(y, 0, 1, 0, 1);
        Given.fileIs(y, 1, 0, 0, 2);
    }

    /** F: a block that begins a file of five, and is data as well; D: data; N: neither. */
    private static RescueBench kinds(String kinds, int reach, int makes) {
        RescueBench x = new RescueBench();
        x.make(A, B, Given.SUM);
        x.edge(0, 0, 0, 100, 0);
        x.goals(0, 1);
        for (int i = 1; i < makes; i++) {
            x.make(250, 250, Given.SUM);
        }
        x.reach(reach);
        for (char kind : kinds.toCharArray()) {
            x.block(kind == 'F' ? Given.block(A, B, 36, 9, 9, 9, 9, 9)
                    : kind == 'D' ? Given.block(9, 9, 9, 9, 9, 9, 9, 9)
                    : Given.JUNK);
        }
        return x;
    }

    private static void tooManyLooks() {
        Due.by("It tells none, if there would be more than 20,000 LOOKS (-2),");
        // Sought out for just so many looks; one block more, out of all reach, is one look more.
        String[] disks = {"NDDDFDNFDDDFDNNNNNNNNN", "DDDNFFDFDDDDNNNNNNNNNNN"};
        for (String disk : disks) {
            RescueBench x = kinds(disk, 8, 1);
            Due.same("20,000 looks", x.search(), 0);
            Due.same("are told", x.count(5), 20000);
            x.block(Given.JUNK);
            Due.same("20,001 looks", x.search(), -2);
            Due.same("are too many", x.count(5), 20001);
            x.block(Given.JUNK);
            x.search();
            Due.same("as are more", x.count(5), 20001);
        }
        // The last junk block becomes a file: it takes no look more.
        RescueBench y = kinds(disks[0], 8, 1);
        y.change(21, ALONE);
        Due.same("20,000 looks and a file", y.search(), 1);
        y.block(ALONE);
        Due.same("20,001 looks and files", y.search(), -2);
        Due.same("tells none", y.count(3), 0);
        y.reach(7);
        Due.same("within less reach", y.search(), 2);
    }

    /** Twenty ends for one head of two makes: 40 files, and one more where the last block is one. */
    private static RescueBench fortyFiles(long last) {
        RescueBench x = Given.open(Given.SUM);
        Given.openMake(x, A, B, Given.SUM);
        x.make(7, 7, Given.SUM);
        x.goals(2, 1);
        x.reach(23);
        x.block(HEAD);
        Given.blocks(x, END, 20);
        x.block(last);
        return x;
    }

    private static void tooManyFiles() {
        Due.by("or more than 40 FILES (-1; -2 is asked first).");
        RescueBench x = fortyFiles(Given.JUNK);
        Due.same("40 files", x.search(), 40);
        Given.fileIs(x, 0, 0, 0, 1);
        Given.fileIs(x, 1, 1, 0, 1);
        Given.fileIs(x, 39, 1, 0, 20);
        x.change(21, Given.block(7, 7, 0, 14));
        Due.same("41 files", x.search(), -1);
        Due.same("tells none", x.count(3), 0);
        Due.same("looks are told", x.count(5), 3 * 22 + 2 * 21);
        x.change(21, END);
        Due.same("42 files", x.search(), -1);
        x.change(21, Given.JUNK);
        Due.same("40 files again", x.search(), 40);
        Due.same("are told", x.count(3), 40);
        // Too many files at the first block, too many looks at the last.
        RescueBench y = fortyFiles(Given.block(A, B, 36, 9, 9, 9, 9, 9));
        y.block(END);
        Due.same("too many files, then too many looks", y.search(), -2);
        Due.same("looks", y.count(5), 20001);
        y.change(21, END);
        Due.same("too many files only", y.search(), -1);
        // And the other way: the looks are too many at the first block.
        y.change(21, HEAD);
        y.change(0, Given.block(A, B, 36, 9, 9, 9, 9, 9));
        Due.same("too many looks, then too many files", y.search(), -2);
        y.change(0, Given.JUNK);
        Due.same("too many files only, at the last", y.search(), -1);
    }

    private static void cost() {
        Due.by("COST of a FILE: the sum over its BLOCKS behind the first of how far each is from the number behind"
                + " that of the one ahead.");
        RescueBench alone = Given.open(Given.SUM);
        Given.blocks(alone, Given.JUNK, 23);
        alone.block(ALONE);
        alone.search();
        costIs(alone, 0);
        int[][] rows = {{0, 1, 0}, {0, 2, 1}, {0, 23, 22}, {1, 0, 2}, {23, 22, 2}, {23, 0, 24}, {12, 10, 3},
            {12, 14, 1}};
        for (int[] row : rows) {
            RescueBench x = twoBlocks(row[0], row[1]);
            x.reach(23);
            x.search();
            costIs(x, row[2]);
        }
        int[][] longRows = {{3, 4, 5, 6, 7, 0}, {7, 6, 5, 4, 3, 8}, {0, 23, 1, 22, 2, 22 + 23 + 20 + 21},
            {5, 4, 7, 6, 9, 2 + 2 + 2 + 2}};
        int[] data = new int[36];
        for (int i = 0; i < 36; i++) {
            data[i] = i;
        }
        long[] blocks = Given.fileOf(A, B, Given.CRC, data);
        for (int[] row : longRows) {
            RescueBench x = new RescueBench();
            x.make(A, B, Given.CRC);
            x.edge(0, 0, 0, 200, 0);
            x.goals(0, 1);
            x.reach(23);
            Given.blocks(x, Given.JUNK, 24);
            for (int i = 0; i < 5; i++) {
                x.change(row[i], blocks[i]);
            }
            x.search();
            costIs(x, row[5]);
        }
    }

    private static void costIs(RescueBench x, int due) {
        Due.same("one file", x.count(3), 1);
        Due.same("its cost", x.count(3) == 1 ? x.file(0, 2) : -1, due);
    }

    private static RescueBench twoFiles() {
        RescueBench x = Given.open(Given.SUM);
        Given.putFile(x, A, B, Given.SUM, 5, 6, 7);
        Given.putFile(x, A, B, Given.SUM, 11, 12, 13, 14, 15, 16, 17);
        x.search();
        return x;
    }

    private static void asItWas() {
        Due.by("FILES tell what the latest SEARCH told, as it was: of its bytes, too.");
        String before = told(twoFiles());
        RescueBench x = twoFiles();
        x.change(0, 0);
        x.change(1, Given.block(A, B, 1, 9, 13));
        x.change(2, -1);
        Due.holds("as it was ahead of changes of bytes", told(x).equals(before));
        RescueBench y = twoFiles();
        y.block(ALONE);
        y.reach(1);
        y.goals(0, 0);
        y.edge(0, 0, 5, 6, 7);
        y.make(A, B, Given.SUM);
        y.goals(1, 1);
        Due.holds("as it was ahead of makes, edges, goals and blocks", told(y).equals(before));
        RescueBench z = twoFiles();
        z.push(9);
        z.write(0);
        z.torn(0);
        Due.holds("as it was ahead of what is written", told(z).equals(before));
        z.change(0, 0);
        Due.same("the next search", z.search(), 2);
        Due.holds("tells of the disk as it is then", !told(z).equals(before));
        Given.fileIs(z, 0, 0, 1, 2);
        Given.fileIs(z, 1, 0, 3);
        Due.same("its data", z.data(1, 0), 9);
        z.goals(0, 0);
        Due.same("a search without files", z.search(), 0);
        Due.same("tells none", z.count(3), 0);
    }

    private static String told(RescueBench x) {
        StringBuilder text = new StringBuilder();
        text.append(x.count(3)).append(':').append(x.count(5));
        for (int k = 0; k < x.count(3); k++) {
            for (int what = 0; what < 8; what++) {
                text.append(' ').append(x.file(k, what));
            }
            for (int i = 0; i < 8; i++) {
                text.append(' ').append(x.data(k, i));
            }
        }
        text.append(" best ").append(x.best()).append(' ').append(x.cost());
        for (int i = 0; i < 4; i++) {
            text.append(' ').append(x.covers(i)).append(' ').append(x.nobody(i));
        }
        return text.toString();
    }

    private static void sure() {
        Due.by("SURE is a FILE, if no other one has its first BLOCK.");
        RescueBench x = Given.open(Given.SUM);
        x.block(HEAD);
        x.block(END);
        x.block(ALONE);
        x.search();
        sureAre(x, 1, 1);
        x.block(END);
        x.search();
        sureAre(x, 0, 0, 1);
        Given.openMake(x, A, B, Given.XOR);
        x.search();
        sureAre(x, 0, 0, 0, 0);
        x.change(3, 0);
        x.change(1, 0);
        x.search();
        sureAre(x, 0, 0);
        // Two rows that begin with unlike blocks: each has the other's first one further on, and stays sure.
        RescueBench y = Given.open(Given.XOR);
        y.block(Given.block(A, B, 13));
        y.block(Given.block(A, B, 13));
        y.block(0);
        y.search();
        Given.fileIs(y, 0, 0, 0, 1, 2);
        Given.fileIs(y, 1, 0, 1, 0, 2);
        sureAre(y, 1, 1);
    }

    private static void sureAre(RescueBench x, int... due) {
        Due.same("files", x.count(3), due.length);
        for (int k = 0; k < due.length && k < x.count(3); k++) {
            Due.same("sure " + k, x.file(k, 3), due[k]);
        }
    }

    private static void torn() {
        Due.by("TORN of a BLOCK: the most BLOCKS that a ROW that FITS and begins with it has (of any MAKE; 0: none),"
                + " of the DISK as it is;");
        RescueBench x = new RescueBench();
        x.block(ALONE);
        Due.same("without a make", x.torn(0), 0);
        x.make(A, B, Given.SUM);
        x.edge(0, 0, 7, 8, 0);
        Due.same("without a goal", x.torn(0), 0);
        x.goals(0, 1);
        Due.same("a whole file", x.torn(0), 1);
        x.change(0, Given.block(A, B, 20, 7, 7, 7, 7, 7));
        Due.same("a beginning", x.torn(0), 1);
        x.block(Given.block(8, 8, 8, 8, 8, 8, 8, 9));
        Due.same("what does not fit", x.torn(0), 1);
        Given.openMake(x, A, B, Given.SUM);
        Due.same("but fits another make", x.torn(0), 2);
        x.make(A, B, Given.SUM);
        Due.same("a make that does not fit takes nothing away", x.torn(0), 2);
        Due.same("begins with it", x.torn(1), 0);
        x.change(1, Given.block(8, 8, 8, 8, 8, 8, 8, 8));
        x.block(Given.JUNK);
        Due.same("as it is now", x.torn(0), 2);
        x.change(2, Given.block(8, 8, 8, 8, 8, 8, 8, Given.checkOf(Given.SUM, A, B, 20, 35, 64, 56)));
        Due.same("with the last block", x.torn(0), 3);
        x.goals(0, 0);
        Due.same("of the other make", x.torn(0), 3);
        x.goals(1, 0);
        Due.same("with no goal for the last", x.torn(0), 2);
        Due.same("all without a search", x.count(5), 0);
        // A row that comes first is not the longest.
        RescueBench y = new RescueBench();
        y.make(A, B, Given.SUM);
        y.edge(0, 0, 1, 1, 0);
        y.edge(0, 0, 2, 2, 1);
        y.edge(0, 1, 2, 2, 1);
        y.block(Given.block(A, B, 36, 1, 1, 1, 1, 1));
        y.block(Given.block(Given.many(2, 8)));
        y.block(Given.block(Given.many(1, 8)));
        y.block(Given.block(Given.many(2, 8)));
        Due.same("0, 2 and both others", y.torn(0), 4);
        y.reach(1);
        Due.same("0, 1, 3 is out of reach", y.torn(0), 2);
    }

    private static void tornTooLong() {
        Due.by("NONE: more than 20,000 LOOKS, as above, for this first BLOCK alone.");
        // Sought out for just so many looks; a make that fits nothing is one look more.
        Due.same("20,000 looks", kinds("DDFDNDNDDDDDDDDNNNNNNDDD", 11, 1).torn(2), 4);
        Due.same("20,001 looks", kinds("DDFDNDNDDDDDDDDNNNNNNDDD", 11, 2).torn(2), -1);
        Due.same("20,002 looks", kinds("DDFDNDNDDDDDDDDNNNNNNDDD", 11, 3).torn(2), -1);
        Due.same("20,000 looks of four makes", kinds("NDDDNDNDDDFDNDDDNDNDDDD", 10, 4).torn(10), 4);
        Due.same("20,001 looks of five makes", kinds("NDDDNDNDDDFDNDDDNDNDDDD", 10, 5).torn(10), -1);
        RescueBench x = longRows(3, 21);
        Due.same("too many for a search", x.search(), -2);
        for (int block = 0; block < 3; block++) {
            Due.same("but not for one first block", x.torn(block), 3);
        }
        Given.openMake(x, A, B, Given.SUM);
        Due.same("two makes look too much", x.torn(0), -1);
        Due.same("another first block", x.torn(3), 0);
        x.reach(4);
        Due.same("within less reach", x.torn(0), 3);
        Due.same("more than 40 files are not minded", fortyFiles(Given.block(7, 7, 0, 14)).torn(0), 2);
    }
}
