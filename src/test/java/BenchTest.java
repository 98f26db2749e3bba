/** Promises 1 to 9, 19 and 20: what a bench is given, one thing at a time. */
public final class BenchTest {
    public static void main(String[] args) {
        newObject();
        make();
        edge();
        goals();
        block();
        change();
        reach();
        push();
        check();
        checkAsTold();
        count();
        Due.end();
    }

    private static void newObject() {
        RescueBench x = new RescueBench();
        Due.same("NONE", RescueBench.NONE, -1);
        Due.same("new: blocks", x.count(0), 0);
        Due.same("new: makes", x.count(1), 0);
        Due.same("new: hand", x.count(2), 0);
        Due.same("new: files", x.count(3), 0);
        Due.same("new: reach", x.count(4), 4);
        Due.same("new: looks", x.count(5), 0);
        Given.bestIs(x, 0, 0);
        Given.nobodyIs(x);
        Due.outOfBounds("new: bytes(0)", () -> x.bytes(0));
        Due.outOfBounds("new: torn(0)", () -> x.torn(0));
        Due.outOfBounds("new: file(0, 0)", () -> x.file(0, 0));
        Due.outOfBounds("new: data(0, 0)", () -> x.data(0, 0));
        Due.outOfBounds("new: check(0)", () -> x.check(0));
        Due.same("new: search", x.search(), 0);
        Due.same("new: looks of it", x.count(5), 0);
    }

    private static void make() {
        RescueBench x = new RescueBench();
        Due.badArgument("first -1", () -> x.make(-1, 0, 0));
        Due.badArgument("first 256", () -> x.make(256, 0, 0));
        Due.badArgument("second -1", () -> x.make(0, -1, 0));
        Due.badArgument("second 256", () -> x.make(0, 256, 0));
        Due.badArgument("check -1", () -> x.make(0, 0, -1));
        Due.badArgument("check 3", () -> x.make(0, 0, 3));
        Due.same("none was made", x.count(1), 0);
        for (int i = 0; i < 6; i++) {
            Due.same("make " + i, x.make(i % 2 * 255, 255 - i, i % 3), i);
            Due.same("makes", x.count(1), i + 1);
        }
        Due.badState("a seventh make", () -> x.make(0, 0, 0));
        Due.badArgument("a wrong seventh make", () -> x.make(0, 0, 3));
        Due.same("makes stay", x.count(1), 6);
        Due.same("without goals", x.goals(5, 1), 0);
        Due.same("without edges", x.edge(5, 0, 0, 0, 0), 1);
    }

    private static void edge() {
        RescueBench x = new RescueBench();
        Due.outOfBounds("edge of no make", () -> x.edge(0, 0, 0, 0, 0));
        x.make(1, 2, 0);
        x.make(1, 2, 0);
        Due.outOfBounds("edge of make -1", () -> x.edge(-1, 0, 0, 0, 0));
        Due.outOfBounds("edge of make 2", () -> x.edge(2, 0, 0, 0, 0));
        Due.outOfBounds("edge of make 6", () -> x.edge(6, 0, 0, 0, 0));
        Due.outOfBounds("the make is asked first", () -> x.edge(2, 16, 0, 0, 0));
        Due.badArgument("from -1", () -> x.edge(0, -1, 0, 0, 0));
        Due.badArgument("from 16", () -> x.edge(0, 16, 0, 0, 0));
        Due.badArgument("to -1", () -> x.edge(0, 0, 0, 0, -1));
        Due.badArgument("to 16", () -> x.edge(0, 0, 0, 0, 16));
        Due.badArgument("low -1", () -> x.edge(0, 0, -1, 0, 0));
        Due.badArgument("high 256", () -> x.edge(0, 0, 0, 256, 0));
        Due.badArgument("both -1", () -> x.edge(0, 0, -1, -1, 0));
        Due.badArgument("both 256", () -> x.edge(0, 0, 256, 256, 0));
        Due.badArgument("low above high", () -> x.edge(0, 0, 8, 7, 0));
        for (int i = 1; i <= 40; i++) {
            Due.same("edge " + i, x.edge(0, i % 16, 0, 255, 15), i);
        }
        Due.badState("edge 41", () -> x.edge(0, 0, 0, 0, 0));
        Due.badArgument("a wrong edge 41", () -> x.edge(0, 0, 0, 0, 16));
        Due.same("another make's edges", x.edge(1, 15, 255, 255, 15), 1);
    }

    private static void goals() {
        RescueBench x = new RescueBench();
        Due.outOfBounds("goals of no make", () -> x.goals(0, 1));
        x.make(1, 2, 0);
        Due.same("goals at first", x.goals(0, 65535), 0);
        Due.same("goals then", x.goals(0, 0), 65535);
        Due.badArgument("goals -1", () -> x.goals(0, -1));
        Due.badArgument("goals 65536", () -> x.goals(0, 65536));
        Due.outOfBounds("the make is asked first", () -> x.goals(1, -1));
        Due.same("goals stay", x.goals(0, 5), 0);
    }

    private static void block() {
        RescueBench x = new RescueBench();
        for (int i = 0; i < 24; i++) {
            Due.same("block " + i, x.block(i * -7L), i);
        }
        Due.same("block 24", x.block(99), -1);
        Due.same("blocks", x.count(0), 24);
        for (int i = 0; i < 24; i++) {
            Due.same("bytes " + i, x.bytes(i), i * -7L);
        }
        Due.outOfBounds("bytes(24)", () -> x.bytes(24));
        Due.outOfBounds("bytes(-1)", () -> x.bytes(-1));
    }

    private static void change() {
        RescueBench x = new RescueBench();
        Due.outOfBounds("change of no block", () -> x.change(0, 1));
        x.block(Long.MIN_VALUE);
        x.block(5);
        Due.same("change", x.change(0, Long.MAX_VALUE), Long.MIN_VALUE);
        Due.same("changed", x.bytes(0), Long.MAX_VALUE);
        Due.same("not changed", x.bytes(1), 5);
        Due.same("change once more", x.change(0, 0), Long.MAX_VALUE);
        Due.outOfBounds("change(2)", () -> x.change(2, 1));
        Due.outOfBounds("change(-1)", () -> x.change(-1, 1));
        Due.same("blocks stay", x.count(0), 2);
    }

    private static void reach() {
        RescueBench x = new RescueBench();
        Due.same("reach 23", x.reach(23), 4);
        Due.badArgument("reach 0", () -> x.reach(0));
        Due.badArgument("reach 24", () -> x.reach(24));
        Due.badArgument("reach -1", () -> x.reach(-1));
        Due.same("reach stays", x.count(4), 23);
        Due.same("reach 1", x.reach(1), 23);
        Due.same("reach then", x.count(4), 1);
    }

    private static void push() {
        RescueBench x = new RescueBench();
        Due.badArgument("push -1", () -> x.push(-1));
        Due.badArgument("push 256", () -> x.push(256));
        Due.same("none was pushed", x.count(2), 0);
        for (int i = 1; i <= 36; i++) {
            Due.same("push " + i, x.push(i % 2 * 255), i);
        }
        Due.same("push 37", x.push(7), -1);
        Due.badArgument("a wrong push 37", () -> x.push(256));
        Due.same("the hand stays", x.count(2), 36);
    }

    private static void check() {
        RescueBench x = new RescueBench();
        x.make(200, 100, Given.SUM);
        x.make(200, 100, Given.XOR);
        x.make(200, 100, Given.CRC);
        Due.same("sum of the head and length 0", x.check(0), 300 - 256);
        Due.same("xor of the head and length 0", x.check(1), 200 ^ 100);
        Given.push(x, 255, 255, 1);
        Due.same("sum", x.check(0), (200 + 100 + 3 + 255 + 255 + 1) % 256);
        Due.same("xor", x.check(1), 200 ^ 100 ^ 3 ^ 1);
        Due.same("the hand stays", x.count(2), 3);
        Due.outOfBounds("check(3)", () -> x.check(3));
        Due.outOfBounds("check(-1)", () -> x.check(-1));
        RescueBench known = new RescueBench();
        known.make('1', '2', Given.CRC);
        Due.same("crc of '1', '2', 0", known.check(0), crcAsTold('1', '2', 0));
    }

    /** The CRC for each byte value in each place that a short file has. */
    private static void checkAsTold() {
        for (int b = 0; b < 256; b++) {
            RescueBench x = new RescueBench();
            x.make(b, 255 - b, Given.CRC);
            Due.same("crc of head " + b, x.check(0), crcAsTold(b, 255 - b, 0));
            x.push(b);
            Due.same("crc of data " + b, x.check(0), crcAsTold(b, 255 - b, 1, b));
            x.push(b ^ 170);
            Due.same("crc of two data " + b, x.check(0), crcAsTold(b, 255 - b, 2, b, b ^ 170));
        }
    }

    private static int crcAsTold(int... bytes) {
        int value = 0;
        for (int b : bytes) {
            value ^= b;
            for (int i = 0; i < 8; i++) {
                boolean high = value >= 128;
                value = value * 2 % 256;
                if (high) {
                    value ^= 7;
                }
            }
        }
        return value;
    }

    private static void count() {
        RescueBench x = Given.open(Given.SUM);
        Given.push(x, 4, 5);
        x.write(0);
        x.search();
        x.push(6);
        x.block(0);
        x.reach(9);
        int[] due = {2, 1, 1, 1, 9, 1};
        for (int what = 0; what < due.length; what++) {
            Due.same("count(" + what + ")", x.count(what), due[what]);
        }
        Due.same("count(6)", x.count(6), -1);
        Due.same("count(-1)", x.count(-1), -1);
        Due.same("count of the least", x.count(Integer.MIN_VALUE), -1);
        Due.same("count of the most", x.count(Integer.MAX_VALUE), -1);
    }
}
