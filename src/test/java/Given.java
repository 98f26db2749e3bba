import java.util.Arrays;

/** What tests begin with: benches with makes, and blocks and files told byte by byte. */
final class Given {
    static final int SUM = 0;
    static final int XOR = 1;
    static final int CRC = 2;
    /** A block that begins no file here, and is no data of the makes that take no 255. */
    static final long JUNK = -1L;

    private Given() {
    }

    /** A bench with one make of the head 1, 2 that takes all data. */
    static RescueBench open(int check) {
        RescueBench x = new RescueBench();
        openMake(x, 1, 2, check);
        return x;
    }

    static int openMake(RescueBench x, int first, int second, int check) {
        int make = x.make(first, second, check);
        x.edge(make, 0, 0, 255, 0);
        x.goals(make, 1);
        return make;
    }

    /** A bench that has some of everything, and a disk that is not as the latest search found it. */
    static RescueBench desk() {
        RescueBench x = open(SUM);
        openMake(x, 3, 4, XOR);
        x.reach(6);
        x.block(JUNK);
        putFile(x, 1, 2, SUM, 9, 8, 7, 6, 5, 4, 3);
        putFile(x, 3, 4, XOR, 40, 41);
        x.search();
        x.change(0, block(1, 2, 0, 3));
        x.block(5);
        x.reach(3);
        push(x, 50, 51, 52);
        return x;
    }

    /** A bench with as many makes, blocks and bytes in the hand as there can be. */
    static RescueBench full() {
        RescueBench x = new RescueBench();
        for (int i = 0; i < 6; i++) {
            openMake(x, 1, i, i % 3);
        }
        for (int i = 0; i < 24; i++) {
            x.block(i * 7L);
        }
        pushMany(x, 77, 36);
        return x;
    }

    /** A block of up to eight bytes, with bytes 0 behind them. */
    static long block(int... bytes) {
        long all = 0;
        for (int i = 0; i < 8; i++) {
            all = all * 256 + (i < bytes.length ? bytes[i] : 0);
        }
        return all;
    }

    /** The check of bytes, step by step as the document tells it. */
    static int checkOf(int check, int... bytes) {
        int value = 0;
        for (int b : bytes) {
            if (check == SUM) {
                value = (value + b) % 256;
            } else if (check == XOR) {
                value ^= b;
            } else {
                value = crcOf(value ^ b);
            }
        }
        return value;
    }

    private static int crcOf(int start) {
        int value = start;
        for (int i = 0; i < 8; i++) {
            boolean high = value >= 128;
            value = value * 2 % 256;
            if (high) {
                value ^= 7;
            }
        }
        return value;
    }

    /** The blocks of a file, made without the bench. */
    static long[] fileOf(int first, int second, int check, int... data) {
        int[] ahead = new int[3 + data.length];
        ahead[0] = first;
        ahead[1] = second;
        ahead[2] = data.length;
        System.arraycopy(data, 0, ahead, 3, data.length);
        int[] all = Arrays.copyOf(ahead, (data.length + 4 + 7) / 8 * 8);
        all[ahead.length] = checkOf(check, ahead);
        long[] blocks = new long[all.length / 8];
        for (int i = 0; i < blocks.length; i++) {
            blocks[i] = block(Arrays.copyOfRange(all, 8 * i, 8 * i + 8));
        }
        return blocks;
    }

    static void putFile(RescueBench x, int first, int second, int check, int... data) {
        for (long bytes : fileOf(first, second, check, data)) {
            x.block(bytes);
        }
    }

    /** So many times the same byte. */
    static int[] many(int b, int times) {
        int[] all = new int[times];
        Arrays.fill(all, b);
        return all;
    }

    static void push(RescueBench x, int... bytes) {
        for (int b : bytes) {
            x.push(b);
        }
    }

    /** Makes no object, since RoomTest counts them. */
    static void pushMany(RescueBench x, int b, int times) {
        for (int i = 0; i < times; i++) {
            x.push(b);
        }
    }

    static void blocks(RescueBench x, long bytes, int times) {
        for (int i = 0; i < times; i++) {
            x.block(bytes);
        }
    }

    static void fileIs(RescueBench x, int k, int make, int... row) {
        if (k >= x.count(3)) {
            Due.holds("that there is a file " + k, false);
            return;
        }
        Due.same("make of file " + k, x.file(k, 0), make);
        Due.same("blocks of file " + k, x.file(k, 4), row.length);
        for (int i = 0; i < row.length; i++) {
            Due.same("block " + i + " of file " + k, x.file(k, 5 + i), row[i]);
        }
        Due.same("behind the blocks of file " + k, x.file(k, 5 + row.length), RescueBench.NONE);
    }

    static void bestIs(RescueBench x, int blocks, int cost, int... files) {
        Due.same("best", x.best(), blocks);
        Due.same("cost", x.cost(), cost);
        for (int i = 0; i < files.length; i++) {
            Due.same("covers(" + i + ")", x.covers(i), files[i]);
        }
        Due.same("covers beyond", x.covers(files.length), RescueBench.NONE);
    }

    static void nobodyIs(RescueBench x, int... blocks) {
        for (int i = 0; i < blocks.length; i++) {
            Due.same("nobody(" + i + ")", x.nobody(i), blocks[i]);
        }
        Due.same("nobody beyond", x.nobody(blocks.length), RescueBench.NONE);
    }
}
