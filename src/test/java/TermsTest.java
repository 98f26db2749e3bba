import java.util.function.Supplier;

/** The words under "What it is", and of the terms those of the disk, the makes, a file's bytes and the hand. */
public final class TermsTest {
    private static final int A = 1;
    private static final int B = 2;

    public static void main(String[] args) {
        bench();
        calls512();
        disk();
        highestFirst();
        makes();
        checks();
        edges();
        goals();
        lengths();
        zeros();
        dataRead();
        rightData();
        checkOfAllBytes();
        sum();
        xor();
        crc();
        hand();
        written();
        Due.end();
    }

    private static void bench() {
        Due.by("A rescuer's bench: a disk whose lists are lost; makes of files told as small machines over bytes with"
                + " heads, lengths and checks; all rows of blocks that read as a file of a make, within told jumps;"
                + " those that are sure, those that are torn, and the best cover of the disk by whole files, with the"
                + " blocks that are nobody's.");
        RescueBench x = Given.open(Given.SUM);
        long[] whole = Given.fileOf(A, B, Given.SUM, 9, 9, 9, 9, 9, 9);
        x.block(whole[1]);
        x.block(whole[0]);
        x.block(whole[1]);
        x.block(whole[0]);
        Given.putFile(x, A, B, Given.SUM, 5);
        x.reach(1);
        Due.same("files", x.search(), 4);
        Given.fileIs(x, 0, 0, 1, 0);
        Given.fileIs(x, 1, 0, 1, 2);
        Given.fileIs(x, 2, 0, 3, 2);
        Given.fileIs(x, 3, 0, 4);
        int[] sure = {0, 0, 1, 1};
        for (int k = 0; k < x.count(3) && k < sure.length; k++) {
            Due.same("sure " + k, x.file(k, 3), sure[k]);
        }
        Given.bestIs(x, 5, 4, 0, 2, 3);
        Given.nobodyIs(x);
        x.change(2, Given.JUNK);
        Due.same("torn", x.torn(3), 1);
        x.search();
        Given.bestIs(x, 3, 2, 0, 1);
        Given.nobodyIs(x, 2, 3);
    }

    private static void calls512() {
        Due.by("An object is used for at most 512 calls after it has been made; what later calls answer is free.");
        RescueBench x = Given.open(Given.SUM);
        for (int i = 0; i < 5; i++) {
            Given.openMake(x, 3, 4, i % 3);
        }
        int calls = 18;
        for (int i = 0; i < 24; i++) {
            long bytes = i < 12 ? Given.JUNK : i == 12 ? Given.block(A, B, 5) : Given.block(A + B + 5);
            Due.same("block", x.block(bytes), i);
            calls++;
        }
        int before = 4;
        while (calls + 8 <= 511) {
            int n = 1 + calls % 23;
            Due.same("reach", x.reach(n), before);
            Due.same("search", x.search(), Math.min(11, n));
            Due.same("torn", x.torn(12), 2);
            Due.same("its last file", x.file(x.count(3) - 1, 6), 12 + Math.min(11, n));
            Due.same("best", x.best(), 2);
            Due.same("cost", x.cost(), 0);
            before = n;
            calls += 7;
        }
        for (; calls < 510; calls++) {
            Due.same("count", x.count(4), before);
        }
        Due.same("call 511", x.reach(3), before);
        Due.same("call 512", x.search(), 3);
        for (int i = 0; i < 1000; i++) {
            x.search();
            x.torn(i % 24);
        }
        Due.holds("that later calls end", true);
    }

    private static void disk() {
        Due.by("The DISK has BLOCKS, numbered from 0 on, 24 at most, of 8 bytes each (0 to 255);");
        RescueBench x = new RescueBench();
        for (int i = 0; i < 24; i++) {
            Due.same("its number", x.block(Given.block(i, 255, 0, 128, 127, 1, 254, 255 - i)), i);
        }
        Due.same("no more than 24", x.block(7), -1);
        for (int i = 0; i < 24; i++) {
            Due.same("its bytes", x.bytes(i), Given.block(i, 255, 0, 128, 127, 1, 254, 255 - i));
        }
        int[] bytes = {0, 1, 127, 128, 254, 255};
        for (int b : bytes) {
            RescueBench y = Given.open(Given.SUM);
            Given.putFile(y, A, B, Given.SUM, Given.many(b, 13));
            Due.same("a file of bytes " + b, y.search(), 1);
            for (int i = 0; i < 13 && y.count(3) == 1; i++) {
                Due.same("byte " + i, y.data(0, i), b);
            }
        }
    }

    private static void highestFirst() {
        Due.by("given as one number of 64 bits, the highest byte first.");
        RescueBench x = Given.open(Given.SUM);
        x.block(0x0000_000D_0901_0201L);
        Due.same("the lowest first is no file", x.search(), 0);
        x.block(0x0102_0109_0D00_0000L);
        Due.same("the highest first is one", x.search(), 1);
        Given.fileIs(x, 0, 0, 1);
        Given.openMake(x, 255, 254, Given.SUM);
        Given.push(x, 1, 2, 3, 4);
        x.write(1);
        Due.same("written", x.bytes(2), 0xFFFE_0401_0203_040BL);
    }

    private static void makes() {
        Due.by("MAKES, numbered from 0 on, 6 at most: two HEAD bytes,");
        RescueBench x = new RescueBench();
        int[][] heads = {{0, 0}, {0, 255}, {255, 0}, {255, 255}, {127, 128}, {127, 128}};
        for (int i = 0; i < 6; i++) {
            Due.same("its number", Given.openMake(x, heads[i][0], heads[i][1], Given.SUM), i);
        }
        for (int i = 0; i < 5; i++) {
            Given.putFile(x, heads[i][0], heads[i][1], Given.SUM, 9);
        }
        Given.putFile(x, 127, 127, Given.SUM, 9);
        Given.putFile(x, 128, 128, Given.SUM, 9);
        Given.putFile(x, 128, 127, Given.SUM, 9);
        Due.same("files", x.search(), 6);
        for (int i = 0; i < 6; i++) {
            Given.fileIs(x, i, i, Math.min(i, 4));
        }
        RescueBench y = new RescueBench();
        Given.openMake(y, A, B, Given.SUM);
        Given.putFile(y, B, A, Given.SUM, 9);
        Given.putFile(y, A, A, Given.SUM, 9);
        Given.putFile(y, B, B, Given.SUM, 9);
        Due.same("both bytes are asked", y.search(), 0);
    }

    private static void checks() {
        Due.by("a CHECK (0 SUM, 1 XOR, 2 CRC),");
        int[] due = {(200 + 100 + 2 + 3 + 7) % 256, 200 ^ 100 ^ 2 ^ 3 ^ 7, Given.checkOf(Given.CRC, 200, 100, 2, 3, 7)};
        for (int check = 0; check < 3; check++) {
            RescueBench x = Given.open(check);
            Given.openMake(x, 200, 100, check);
            Given.push(x, 3, 7);
            Due.same("check " + check, x.check(1), due[check]);
            x.write(1);
            Due.same("written", x.bytes(0), Given.block(200, 100, 2, 3, 7, due[check]));
            for (int other = 0; other < 3; other++) {
                x.change(0, Given.block(200, 100, 2, 3, 7, due[other]));
                Due.same("file with check " + other, x.search(), check == other ? 1 : 0);
            }
        }
    }

    /** What write says of data that a bench's first make is asked for: 0, or -1. */
    private static int written(Supplier<RescueBench> given, int... data) {
        RescueBench x = given.get();
        Given.push(x, data);
        return x.write(0);
    }

    /** The same of a file that is on the disk. */
    private static int found(Supplier<RescueBench> given, int... data) {
        RescueBench x = given.get();
        Given.putFile(x, A, B, Given.SUM, data);
        return x.search() - 1;
    }

    private static void takes(Supplier<RescueBench> given, int... data) {
        Due.same("write of right data", written(given, data), 0);
        Due.same("search of right data", found(given, data), 0);
    }

    private static void refuses(Supplier<RescueBench> given, int... data) {
        Due.same("write of data that are not right", written(given, data), -1);
        Due.same("search of data that are not right", found(given, data), -1);
    }

    private static Supplier<RescueBench> machine(int goals, int... edges) {
        return () -> {
            RescueBench x = new RescueBench();
            x.make(A, B, Given.SUM);
            for (int i = 0; i + 3 < edges.length; i += 4) {
                x.edge(0, edges[i], edges[i + 1], edges[i + 2], edges[i + 3]);
            }
            x.goals(0, goals);
            return x;
        };
    }

    private static void edges() {
        Due.by("EDGES, 40 at most: from a STATE (0 to 15) to a STATE by each byte from a low to a high one;");
        Supplier<RescueBench> range = machine(2, 0, 10, 20, 1);
        refuses(range, 9);
        takes(range, 10);
        takes(range, 15);
        takes(range, 20);
        refuses(range, 21);
        Supplier<RescueBench> one = machine(2, 0, 128, 128, 1);
        refuses(one, 127);
        takes(one, 128);
        refuses(one, 129);
        Supplier<RescueBench> lowest = machine(2, 0, 0, 0, 1);
        takes(lowest, 0);
        refuses(lowest, 1);
        refuses(lowest, 255);
        Supplier<RescueBench> highest = machine(2, 0, 255, 255, 1);
        takes(highest, 255);
        refuses(highest, 254);
        refuses(highest, 0);
        Supplier<RescueBench> all = machine(2, 0, 0, 255, 1);
        takes(all, 0);
        takes(all, 255);
        Supplier<RescueBench> farthest = machine(1 << 15, 0, 5, 5, 15, 15, 6, 6, 15);
        takes(farthest, 5);
        takes(farthest, 5, 6, 6);
        refuses(farthest, 6);
        refuses(farthest, 5, 5);
        int[] forty = new int[160];
        for (int i = 0; i < 40; i++) {
            forty[4 * i + 1] = 2 * i + 100;
            forty[4 * i + 2] = 2 * i + 100;
            forty[4 * i + 3] = 1;
        }
        for (int i = 0; i < 40; i++) {
            takes(machine(2, forty), 2 * i + 100);
            refuses(machine(2, forty), 2 * i + 101);
        }
    }

    private static void goals() {
        Due.by("and GOALS: STATES as bits.");
        int[] chain = new int[60];
        for (int i = 0; i < 15; i++) {
            chain[4 * i] = i;
            chain[4 * i + 1] = i;
            chain[4 * i + 2] = i;
            chain[4 * i + 3] = i + 1;
        }
        for (int state = 0; state < 16; state++) {
            int[] data = new int[state];
            for (int i = 0; i < state; i++) {
                data[i] = i;
            }
            takes(machine(1 << state, chain), data);
            refuses(machine(65535 ^ (1 << state), chain), data);
            takes(machine(65535, chain), data);
            refuses(machine(0, chain), data);
        }
    }

    private static void lengths() {
        Due.by("A FILE's bytes: the two HEAD bytes; LENGTH, 0 to 36; so many DATA bytes; the CHECK byte;");
        for (int length = 0; length <= 36; length++) {
            RescueBench x = Given.open(Given.CRC);
            x.reach(1);
            int[] data = Given.many(77, length);
            Given.putFile(x, A, B, Given.CRC, data);
            Due.holds("length " + length + " is a file", x.search() >= 1);
            Due.holds("with its length", x.count(3) >= 1 && x.file(0, 1) == length);
            Due.same("with its blocks", x.torn(0), length / 8 + (length % 8 > 4 ? 2 : 1));
        }
        for (int length : new int[] {37, 38, 127, 128, 255}) {
            RescueBench x = Given.open(Given.SUM);
            x.reach(1);
            int[] data = Given.many(77, length > 100 ? 40 : length);
            for (long bytes : Given.fileOf(A, B, Given.SUM, data)) {
                x.block(bytes);
            }
            x.change(0, Given.block(A, B, length, 77, 77, 77, 77, 77));
            Due.same("length " + length + " is none", x.search(), 0);
            Due.same("not even its beginning", x.torn(0), 0);
        }
        RescueBench x = Given.open(Given.SUM);
        x.block(Given.block(A, B, 1, 9, 13));
        Due.same("one data byte and its check", x.search(), 1);
        for (int bit = 0; bit < 8; bit++) {
            x.change(0, Given.block(A, B, 1, 9, 13 ^ (1 << bit)));
            Due.same("a check with bit " + bit + " wrong", x.search(), 0);
        }
    }

    private static void zeros() {
        Due.by("and bytes 0 till the last BLOCK is full.");
        for (int length = 0; length <= 13; length++) {
            RescueBench x = Given.open(Given.XOR);
            int[] data = Given.many(77, length);
            Given.putFile(x, A, B, Given.XOR, data);
            int last = x.count(0) - 1;
            long bytes = x.bytes(last);
            int behindCheck = (length + 4 - 1) % 8 + 1;
            Due.same("zeros only", x.torn(0), last + 1);
            for (int place = behindCheck; place < 8; place++) {
                for (int b : new int[] {1, 128, 255}) {
                    x.change(last, bytes | (long) b << (56 - 8 * place));
                    Due.same("a byte " + b + " in place " + place, x.search(), 0);
                }
            }
            Given.push(x, data);
            int first = x.write(0);
            Due.same("written with zeros", x.bytes(first + last), bytes);
        }
        RescueBench y = Given.open(Given.SUM);
        y.block(Given.block(A, B, 4, 9, 9, 9, 9, 43));
        Due.same("the check is the last byte", y.search(), 1);
    }

    private static void dataRead() {
        Due.by("DATA READ: from STATE 0 on, by an EDGE for each byte (any that there is, where there are several);");
        Supplier<RescueBench> fromOne = machine(4, 1, 5, 5, 2, 0, 6, 6, 1);
        refuses(fromOne, 5);
        takes(fromOne, 6, 5);
        refuses(fromOne, 6, 5, 5);
        refuses(fromOne, 6, 7);
        Supplier<RescueBench> several = machine(4, 0, 0, 255, 0, 0, 7, 7, 1, 1, 8, 8, 2);
        takes(several, 7, 8);
        takes(several, 7, 7, 8);
        takes(several, 8, 7, 8, 7, 8);
        refuses(several, 7, 8, 7);
        refuses(several, 8, 8);
        Supplier<RescueBench> otherOrder = machine(4, 1, 8, 8, 2, 0, 7, 7, 1, 0, 0, 255, 0);
        takes(otherOrder, 7, 7, 8);
        refuses(otherOrder, 7, 8, 8);
        // Each byte goes on from where the last one led, in the second block too.
        Supplier<RescueBench> turns = machine(1, 0, 1, 1, 1, 1, 2, 2, 0);
        takes(turns, 1, 2, 1, 2, 1, 2, 1, 2);
        refuses(turns, 1, 2, 1, 2, 1, 1, 2, 2);
        refuses(turns, 1, 2, 1, 2, 1, 2, 1, 1);
    }

    private static void rightData() {
        Due.by("they are right, if a GOAL can be where they end.");
        takes(machine(1));
        refuses(machine(0));
        refuses(machine(0xFFFE, 0, 0, 255, 1));
        Supplier<RescueBench> even = machine(1, 0, 0, 255, 1, 1, 0, 255, 0);
        takes(even, 3, 4);
        refuses(even, 3);
        refuses(even, 3, 4, 5);
        Supplier<RescueBench> oneOfTwo = machine(2, 0, 3, 3, 1, 0, 3, 3, 2);
        takes(oneOfTwo, 3);
        takes(machine(4, 0, 3, 3, 1, 0, 3, 3, 2), 3);
        refuses(machine(8, 0, 3, 3, 1, 0, 3, 3, 2), 3);
        refuses(machine(1), 0);
    }

    private static void checkOfAllBytes() {
        Due.by("CHECK of all bytes ahead of it (HEAD, LENGTH, DATA):");
        for (int check = 0; check < 3; check++) {
            for (int length : new int[] {0, 1, 4, 5, 6, 12, 13, 35, 36}) {
                int[] ahead = new int[3 + length];
                ahead[0] = 200;
                ahead[1] = 100;
                ahead[2] = length;
                RescueBench x = new RescueBench();
                Given.openMake(x, 200, 100, check);
                for (int i = 0; i < length; i++) {
                    ahead[3 + i] = (91 * i + 13) % 256;
                    x.push(ahead[3 + i]);
                }
                Due.same("check " + check + " of length " + length, x.check(0), Given.checkOf(check, ahead));
                x.write(0);
                int at = 3 + length;
                Due.same("written", x.bytes(at / 8) >>> (56 - at % 8 * 8) & 255, Given.checkOf(check, ahead));
            }
        }
    }

    private static void sum() {
        Due.by("SUM: their sum, its lowest eight bits;");
        int[][] heads = {{100, 155}, {100, 156}, {101, 156}, {255, 255}, {0, 0}};
        int[] due = {255, 0, 1, 254, 0};
        for (int i = 0; i < heads.length; i++) {
            RescueBench x = new RescueBench();
            Given.openMake(x, heads[i][0], heads[i][1], Given.SUM);
            Due.same("sum of " + heads[i][0] + " and " + heads[i][1], x.check(0), due[i]);
            x.block(Given.block(heads[i][0], heads[i][1], 0, due[i]));
            Due.same("found", x.search(), 1);
        }
        RescueBench x = new RescueBench();
        x.make(255, 255, Given.SUM);
        Given.pushMany(x, 255, 36);
        Due.same("the greatest sum", x.check(0), (38 * 255 + 36) % 256);
    }

    private static void xor() {
        Due.by("XOR: each bit 1 if an odd number of them has it;");
        for (int bit = 0; bit < 8; bit++) {
            int b = 1 << bit;
            RescueBench x = new RescueBench();
            x.make(b, 0, Given.XOR);
            x.make(b, b, Given.XOR);
            Due.same("one has it", x.check(0), b);
            Due.same("two have it", x.check(1), 0);
            Given.push(x, b);
            Due.same("of three", x.check(1), b ^ 1);
            Given.push(x, b);
            Due.same("of four", x.check(1), 2);
        }
    }

    private static void crc() {
        Due.by("CRC: from 0 on, for each byte: that is put in by XOR, then eight times: twice the value (its lowest"
                + " eight bits), by XOR with 7 if it was 128 or more ahead of that.");
        for (int b = 0; b < 256; b++) {
            RescueBench x = new RescueBench();
            x.make(0, b, Given.CRC);
            x.make(b, 255 - b, Given.CRC);
            Due.same("crc of head " + b, x.check(1), Given.checkOf(Given.CRC, b, 255 - b, 0));
            Due.same("crc of second head " + b, x.check(0), Given.checkOf(Given.CRC, 0, b, 0));
            x.push(b);
            Due.same("crc of data " + b, x.check(1), Given.checkOf(Given.CRC, b, 255 - b, 1, b));
            x.push(b ^ 170);
            Due.same("crc of two data " + b, x.check(1), Given.checkOf(Given.CRC, b, 255 - b, 2, b, b ^ 170));
        }
        // By hand: a LENGTH of 1 is doubled seven times to 128, and then to 0 by XOR with 7; a byte 7 makes that 0.
        RescueBench x = new RescueBench();
        x.make(0, 0, Given.CRC);
        Due.same("crc of zeros", x.check(0), 0);
        x.push(7);
        Due.same("crc of 0, 0, 1, 7", x.check(0), 0);
    }

    private static void hand() {
        Due.by("The HAND is a row of bytes, 36 at most.");
        RescueBench x = Given.open(Given.SUM);
        int[] data = new int[36];
        for (int i = 0; i < 36; i++) {
            data[i] = (255 - 71 * i) & 255;
            Due.same("push", x.push(data[i]), i + 1);
        }
        Due.same("no 37th", x.push(9), -1);
        x.write(0);
        long[] due = Given.fileOf(A, B, Given.SUM, data);
        for (int i = 0; i < 5; i++) {
            Due.same("all 36 in their order", x.bytes(i), due[i]);
        }
    }

    private static void written() {
        Due.by("WRITTEN as a FILE of a MAKE its bytes come as DATA in new BLOCKS, one behind another.");
        for (int length = 0; length <= 36; length++) {
            RescueBench x = Given.open(Given.SUM);
            int make = Given.openMake(x, 255, 128, length % 3);
            Given.blocks(x, 7, length % 4);
            int[] data = new int[length];
            for (int i = 0; i < length; i++) {
                data[i] = 255 - 7 * i;
            }
            Given.push(x, data);
            Due.same("the first new block", x.write(make), length % 4);
            long[] due = Given.fileOf(255, 128, length % 3, data);
            Due.same("new blocks of length " + length, x.count(0), length % 4 + due.length);
            for (int i = 0; i < due.length && length % 4 + i < x.count(0); i++) {
                Due.same("new block " + i, x.bytes(length % 4 + i), due[i]);
            }
            for (int i = 0; i < length % 4; i++) {
                Due.same("old block " + i, x.bytes(i), 7);
            }
        }
    }
}
