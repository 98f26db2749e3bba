/** What tests begin with: benches with makes, and blocks and files told byte by byte. */
final class Given {
    static final int SUM = 0;
    static final int XOR = 1;
    static final int CRC = 2;

    private Given() {
    }

    /** A bench with one make of the head 1, 2 that takes all data. */
    static RescueBench open(int check) {
        RescueBench x = new RescueBench();
        openMake(x, 1, 2, check);
        return x;
    }

    static int openMake(RescueBench x, int first, int second, int check) {
        int make = x.make(first, second, check);
        x.edge(make, 0, 0, 255, 0);
        x.goals(make, 1);
        return make;
    }

    /** A block of up to eight bytes, with bytes 0 behind them. */
    static long block(int... bytes) {
        long all = 0;
        for (int i = 0; i < 8; i++) {
            all = all * 256 + (i < bytes.length ? bytes[i] : 0);
        }
        return all;
    }

    static void push(RescueBench x, int... bytes) {
        for (int b : bytes) {
            x.push(b);
        }
    }

    static void pushMany(RescueBench x, int b, int times) {
        for (int i = 0; i < times; i++) {
            x.push(b);
        }
    }

    static void blocks(RescueBench x, long bytes, int times) {
        for (int i = 0; i < times; i++) {
            x.block(bytes);
        }
    }

    static void fileIs(RescueBench x, int k, int make, int... row) {
        Due.same("make of file " + k, x.file(k, 0), make);
        Due.same("blocks of file " + k, x.file(k, 4), row.length);
        for (int i = 0; i < row.length; i++) {
            Due.same("block " + i + " of file " + k, x.file(k, 5 + i), row[i]);
        }
        Due.same("behind the blocks of file " + k, x.file(k, 5 + row.length), RescueBench.NONE);
    }

    static void bestIs(RescueBench x, int blocks, int cost, int... files) {
        Due.same("best", x.best(), blocks);
        Due.same("cost", x.cost(), cost);
        for (int i = 0; i < files.length; i++) {
            Due.same("covers(" + i + ")", x.covers(i), files[i]);
        }
        Due.same("covers beyond", x.covers(files.length), RescueBench.NONE);
        Due.same("covers(-1)", x.covers(-1), RescueBench.NONE);
    }

    static void nobodyIs(RescueBench x, int... blocks) {
        for (int i = 0; i < blocks.length; i++) {
            Due.same("nobody(" + i + ")", x.nobody(i), blocks[i]);
        }
        Due.same("nobody beyond", x.nobody(blocks.length), RescueBench.NONE);
        Due.same("nobody(-1)", x.nobody(-1), RescueBench.NONE);
    }
}
