/** Promise 10: the hand as a file on the disk, and that what is written is found again. */
public final class WriteTest {
    public static void main(String[] args) {
        bytesOfAFile();
        emptyHand();
        eachLength();
        rightData();
        severalEdges();
        notRight();
        noRoom();
        Due.end();
    }

    private static void bytesOfAFile() {
        RescueBench x = new RescueBench();
        x.block(0);
        Given.openMake(x, 255, 128, Given.SUM);
        Given.push(x, 10, 20, 30, 40, 50);
        Due.same("write", x.write(0), 1);
        Due.same("blocks", x.count(0), 3);
        Due.same("hand", x.count(2), 0);
        Due.same("first block", x.bytes(1), Given.block(255, 128, 5, 10, 20, 30, 40, 50));
        Due.same("second block", x.bytes(2), Given.block((255 + 128 + 5 + 150) % 256));
    }

    private static void emptyHand() {
        RescueBench x = new RescueBench();
        x.make(1, 2, Given.XOR);
        Due.same("state 0 is no goal", x.write(0), -1);
        x.goals(0, 0xFFFE);
        Due.same("state 0 is still none", x.write(0), -1);
        x.goals(0, 1);
        Due.same("write nothing", x.write(0), 0);
        Due.same("its block", x.bytes(0), Given.block(1, 2, 0, 3));
        Due.same("it is a file", x.search(), 1);
        Due.same("its length", x.file(0, 1), 0);
        Due.same("its data", x.data(0, 0), -1);
    }

    private static void eachLength() {
        for (int check = 0; check < 3; check++) {
            for (int length = 0; length <= 36; length++) {
                RescueBench x = Given.open(check);
                for (int i = 0; i < length; i++) {
                    x.push(255 - 7 * i);
                }
                int due = x.check(0);
                int blocks = (length + 4 + 7) / 8;
                Due.same("write", x.write(0), 0);
                Due.same("blocks of length " + length, x.count(0), blocks);
                int at = 3 + length;
                Due.same("check byte", x.bytes(at / 8) >>> (56 - at % 8 * 8) & 255, due);
                x.reach(1);
                Due.same("found again", x.search() >= 1 ? 1 : 0, 1);
                Due.same("length", x.file(0, 1), length);
                Due.same("cost", x.file(0, 2), 0);
                Due.same("blocks", x.file(0, 4), blocks);
                for (int i = 0; i < length; i++) {
                    Due.same("data " + i, x.data(0, i), 255 - 7 * i);
                }
                Due.same("data beyond", x.data(0, length), -1);
            }
        }
    }

    private static void rightData() {
        RescueBench x = new RescueBench();
        x.make(1, 2, Given.SUM);
        x.edge(0, 0, 10, 20, 15);
        x.edge(0, 15, 255, 255, 0);
        x.goals(0, 1 << 15);
        for (int b : new int[] {9, 21}) {
            x.push(b);
            Due.same("not from state 0: " + b, x.write(0), -1);
            x = new RescueBench();
            x.make(1, 2, Given.SUM);
            x.edge(0, 0, 10, 20, 15);
            x.edge(0, 15, 255, 255, 0);
            x.goals(0, 1 << 15);
        }
        x.push(10);
        Due.same("lowest byte", x.write(0), 0);
        x.push(20);
        Due.same("highest byte", x.write(0), 1);
        Given.push(x, 15, 255);
        Due.same("ends in no goal", x.write(0), -1);
        x.push(15);
        Due.same("ends in the goal", x.write(0), 2);
    }

    private static void severalEdges() {
        RescueBench x = new RescueBench();
        x.make(1, 2, Given.SUM);
        x.edge(0, 0, 0, 255, 0);
        x.edge(0, 0, 7, 7, 1);
        x.edge(0, 1, 8, 8, 2);
        x.goals(0, 4);
        Given.push(x, 7, 7, 8);
        Due.same("one of the ways ends in a goal", x.write(0), 0);
        Given.push(x, 7, 8, 7);
        Due.same("none of them does", x.write(0), -1);
    }

    private static void notRight() {
        RescueBench x = Given.open(Given.SUM);
        x.goals(0, 2);
        Given.push(x, 1, 2, 3);
        Due.same("not right", x.write(0), -1);
        Due.same("the hand stays", x.count(2), 3);
        Due.same("no blocks", x.count(0), 0);
        Due.outOfBounds("write(1)", () -> x.write(1));
        Due.outOfBounds("write(-1)", () -> x.write(-1));
        x.goals(0, 1);
        Due.same("then right", x.write(0), 0);
        Due.same("its bytes", x.bytes(0), Given.block(1, 2, 3, 1, 2, 3, 12));
    }

    private static void noRoom() {
        RescueBench x = Given.open(Given.SUM);
        Given.blocks(x, 0, 23);
        Given.pushMany(x, 1, 5);
        Due.same("no room for two", x.write(0), -2);
        Due.same("the hand stays", x.count(2), 5);
        Due.same("the disk stays", x.count(0), 23);
        x.goals(0, 0);
        Due.same("not right is asked first", x.write(0), -1);
        RescueBench y = Given.open(Given.SUM);
        Given.blocks(y, 0, 23);
        Given.pushMany(y, 1, 4);
        Due.same("room for one", y.write(0), 23);
        Due.same("no room for nothing", y.write(0), -2);
    }
}
