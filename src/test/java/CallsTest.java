import java.util.function.Supplier;
import java.util.function.ToLongFunction;

/** Promises 1 to 10, 19 and 20: what a bench is given, and what it refuses. */
public final class CallsTest {
    private static final int LEAST = Integer.MIN_VALUE;
    private static final int MOST = Integer.MAX_VALUE;

    public static void main(String[] args) {
        newObject();
        make();
        edge();
        goals();
        block();
        change();
        bytes();
        reach();
        push();
        write();
        check();
        count();
        Due.end();
    }

    private static void newObject() {
        Due.by("An empty DISK, an empty HAND, no MAKES, no SEARCH; REACH 4.");
        Due.same("NONE", RescueBench.NONE, -1);
        int[] due = {0, 0, 0, 0, 4, 0};
        for (int what = 0; what < due.length; what++) {
            Due.same("count(" + what + ")", new RescueBench().count(what), due[what]);
        }
        Given.bestIs(new RescueBench(), 0, 0);
        Given.nobodyIs(new RescueBench());
        Due.outOfBounds("no block", RescueBench::new, x -> x.bytes(0));
        Due.outOfBounds("no block to change", RescueBench::new, x -> x.change(0, 1));
        Due.outOfBounds("no block that is torn", RescueBench::new, x -> x.torn(0));
        Due.outOfBounds("no file", RescueBench::new, x -> x.file(0, 0));
        Due.outOfBounds("no data", RescueBench::new, x -> x.data(0, 0));
        Due.outOfBounds("no make to check by", RescueBench::new, x -> x.check(0));
        Due.outOfBounds("no make to write by", RescueBench::new, x -> x.write(0));
        Due.same("its first block", new RescueBench().block(1), 0);
        Due.same("its first make", new RescueBench().make(1, 2, 0), 0);
        Due.same("its first push", new RescueBench().push(1), 1);
        Due.same("its first reach", new RescueBench().reach(5), 4);
        Due.same("its first search", new RescueBench().search(), 0);
        RescueBench one = Given.full();
        Due.same("of another object nothing", new RescueBench().count(0), 0);
        Due.same("nor of the new one", one.count(0), 24);
    }

    private static RescueBench sixMakes() {
        RescueBench x = new RescueBench();
        for (int i = 0; i < 6; i++) {
            x.make(1, 2, 0);
        }
        return x;
    }

    private static void make() {
        Due.by("A MAKE without EDGES and GOALS: its number.");
        RescueBench x = new RescueBench();
        for (int i = 0; i < 6; i++) {
            Due.same("its number", x.make(i % 2 * 255, 255 - i % 2 * 255, i % 3), i);
            Due.same("makes", x.count(1), i + 1);
            Due.same("no right data, not even none", x.write(i), -1);
            Due.same("without goals", x.goals(i, 1), 0);
            x.push(7);
            Due.same("without edges", x.write(i), -1);
            Due.same("its first edge", x.edge(i, 0, 0, 255, 0), 1);
            Due.same("with both", x.write(i), i);
        }
        Due.by("IllegalArgumentException: HEAD bytes are not 0 to 255, or no such CHECK;");
        for (int wrong : new int[] {-1, 256, LEAST, MOST}) {
            Due.badArgument("first " + wrong, Given::desk, y -> y.make(wrong, 0, 0));
            Due.badArgument("second " + wrong, Given::desk, y -> y.make(0, wrong, 0));
        }
        for (int wrong : new int[] {-1, 3, LEAST, MOST}) {
            Due.badArgument("check " + wrong, Given::desk, y -> y.make(0, 0, wrong));
        }
        Due.same("bytes 0 and 255", Given.desk().make(0, 255, 2), 2);
        Due.same("bytes 255 and 0", Given.desk().make(255, 0, 0), 2);
        Due.badArgument("of six, too: the argument is asked first", CallsTest::sixMakes, y -> y.make(256, 0, 0));
        Due.badArgument("of six, too: the check", CallsTest::sixMakes, y -> y.make(0, 0, 3));
        Due.by("IllegalStateException: there are 6.");
        Due.badState("a seventh make", CallsTest::sixMakes, y -> y.make(0, 0, 0));
        Due.badState("of a full bench", Given::full, y -> y.make(255, 255, 2));
    }

    /** A make with so many edges, no two alike. */
    private static Supplier<RescueBench> edges(int count) {
        return () -> {
            RescueBench x = new RescueBench();
            x.make(1, 2, 0);
            x.make(1, 2, 0);
            for (int i = 0; i < count; i++) {
                x.edge(0, i % 16, i, 200 + i, 15 - i % 16);
            }
            return x;
        };
    }

    private static void edge() {
        Due.by("An EDGE of a MAKE: how many it has.");
        RescueBench x = edges(0).get();
        for (int i = 1; i <= 40; i++) {
            Due.same("edges", x.edge(0, i % 16, i, 255 - i, 15 - i % 16), i);
        }
        Due.same("of another make", x.edge(1, 0, 0, 255, 15), 1);
        Due.same("and its next", x.edge(1, 15, 255, 255, 0), 2);
        Due.by("IndexOutOfBoundsException: no such MAKE (so below);");
        noSuchMake("edge", (y, make) -> y.edge(make, 0, 0, 0, 0));
        noSuchMake("an edge that is wrong", (y, make) -> y.edge(make, 16, 0, 0, 0));
        noSuchMake("goals", (y, make) -> y.goals(make, 1));
        noSuchMake("goals that are wrong", (y, make) -> y.goals(make, -1));
        noSuchMake("write", RescueBench::write);
        noSuchMake("check", RescueBench::check);
        Due.by("IllegalArgumentException: a STATE is not 0 to 15, bytes are not 0 to 255, or low is above high;");
        for (int wrong : new int[] {-1, 16, LEAST, MOST}) {
            Due.badArgument("from " + wrong, Given::desk, y -> y.edge(0, wrong, 0, 0, 0));
            Due.badArgument("to " + wrong, Given::desk, y -> y.edge(0, 0, 0, 0, wrong));
            Due.badArgument("of 40, too: from " + wrong, edges(40), y -> y.edge(0, wrong, 0, 0, 0));
        }
        for (int wrong : new int[] {-1, 256, LEAST, MOST}) {
            Due.badArgument("both " + wrong, Given::desk, y -> y.edge(0, 0, wrong, wrong, 0));
            Due.badArgument("of 40, too: both " + wrong, edges(40), y -> y.edge(0, 0, wrong, wrong, 0));
        }
        Due.badArgument("low -1", Given::desk, y -> y.edge(0, 0, -1, 5, 0));
        Due.badArgument("high 256", Given::desk, y -> y.edge(0, 0, 5, 256, 0));
        Due.badArgument("8 to 7", Given::desk, y -> y.edge(0, 0, 8, 7, 0));
        Due.badArgument("255 to 0", Given::desk, y -> y.edge(0, 0, 255, 0, 0));
        Due.badArgument("of 40, too: 8 to 7", edges(40), y -> y.edge(0, 0, 8, 7, 0));
        notInForce(0, y -> y.edge(0, 0, 100, 256, 0));
        notInForce(0, y -> y.edge(0, 0, -1, 100, 0));
        notInForce(0, y -> y.edge(0, 0, 100, 99, 0));
        notInForce(0, y -> y.edge(0, 16, 100, 100, 0));
        Due.same("7 to 7", Given.desk().edge(0, 15, 7, 7, 15), 2);
        Due.same("0 to 255", Given.desk().edge(0, 0, 0, 255, 15), 2);
        Due.by("IllegalStateException: there are 40.");
        Due.same("the 40th", edges(39).get().edge(0, 0, 0, 0, 0), 40);
        Due.badState("the 41st", edges(40), y -> y.edge(0, 0, 0, 0, 0));
        Due.badState("the 41st, as wide as can be", edges(40), y -> y.edge(0, 15, 0, 255, 15));
        Due.same("another make's first", edges(40).get().edge(1, 0, 0, 0, 0), 1);
        notInForce(40, y -> y.edge(0, 0, 100, 100, 0));
    }

    /** That no edge of a refused call reads a byte: 100 is not right, whatever its edge was to be. */
    private static void notInForce(int edges, ToLongFunction<RescueBench> refused) {
        RescueBench x = new RescueBench();
        x.make(1, 2, 0);
        x.goals(0, 65535);
        for (int i = 0; i < edges; i++) {
            x.edge(0, 1, i, i, 1);
        }
        try {
            Due.same("an edge that is to be refused", refused.applyAsLong(x), Long.MIN_VALUE);
        } catch (IllegalArgumentException | IllegalStateException e) {
            x.push(100);
            Due.same("a byte of a refused edge", x.write(0), -1);
        }
    }

    private interface MakeCall {
        long of(RescueBench x, int make);
    }

    private static void noSuchMake(String what, MakeCall call) {
        for (int wrong : new int[] {-1, 2, 5, 6, 7, LEAST, MOST}) {
            Due.outOfBounds(what + " of make " + wrong, Given::desk, x -> call.of(x, wrong));
        }
        for (int wrong : new int[] {-1, 6, LEAST, MOST}) {
            Due.outOfBounds(what + " of make " + wrong + " of six", Given::full, x -> call.of(x, wrong));
        }
        Due.outOfBounds(what + " without a make", RescueBench::new, x -> call.of(x, 0));
    }

    private static void goals() {
        Due.by("GOALS of a MAKE: what they were.");
        RescueBench x = new RescueBench();
        x.make(1, 2, 0);
        x.make(1, 2, 0);
        Due.same("at first", x.goals(0, 65535), 0);
        Due.same("all of them", x.goals(0, 0), 65535);
        Due.same("none", x.goals(0, 32768), 0);
        Due.same("the last one", x.goals(0, 1), 32768);
        Due.same("another make's", x.goals(1, 5), 0);
        Due.same("the first one", x.goals(0, 1), 1);
        Due.by("IllegalArgumentException: they are not 0 to 65,535.");
        for (int wrong : new int[] {-1, 65536, 65537, LEAST, MOST}) {
            Due.badArgument("goals " + wrong, Given::desk, y -> y.goals(0, wrong));
        }
    }

    private static RescueBench blocks(int count) {
        RescueBench x = Given.open(Given.SUM);
        for (int i = 0; i < count; i++) {
            x.block(i * -7L);
        }
        return x;
    }

    private static void block() {
        Due.by("A BLOCK: its number; NONE, doing nothing: there are 24.");
        RescueBench x = new RescueBench();
        for (int i = 0; i < 24; i++) {
            Due.same("its number", x.block(i % 2 == 0 ? Long.MIN_VALUE + i : Long.MAX_VALUE - i), i);
            Due.same("blocks", x.count(0), i + 1);
        }
        for (int i = 0; i < 24; i++) {
            Due.same("its bytes", x.bytes(i), i % 2 == 0 ? Long.MIN_VALUE + i : Long.MAX_VALUE - i);
        }
        Due.same("the 24th", blocks(23).block(5), 23);
        Due.only("the 25th", () -> blocks(24), y -> y.block(5), -1);
        Due.only("the 25th of a full bench", Given::full, y -> y.block(-1), -1);
    }

    private static void change() {
        Due.by("A BLOCK gets other bytes: what it had.");
        RescueBench x = blocks(24);
        Due.same("the first", x.change(0, Long.MAX_VALUE), 0);
        Due.same("once more", x.change(0, Long.MIN_VALUE), Long.MAX_VALUE);
        Due.same("and again", x.change(0, 1), Long.MIN_VALUE);
        Due.same("the last", x.change(23, -1), -7 * 23);
        for (int i = 0; i < 24; i++) {
            Due.same("bytes of block " + i, x.bytes(i), i == 0 ? 1 : i == 23 ? -1 : i * -7L);
        }
        Due.same("no block more", x.count(0), 24);
        Due.by("IndexOutOfBoundsException: no such BLOCK (so below).");
        noSuchBlock("change", (y, block) -> y.change(block, 5));
        noSuchBlock("bytes", RescueBench::bytes);
        noSuchBlock("torn", RescueBench::torn);
    }

    private static void noSuchBlock(String what, MakeCall call) {
        for (int wrong : new int[] {-1, 5, 6, 23, 24, LEAST, MOST}) {
            Due.outOfBounds(what + " of block " + wrong, Given::desk, x -> call.of(x, wrong));
        }
        for (int wrong : new int[] {-1, 24, LEAST, MOST}) {
            Due.outOfBounds(what + " of block " + wrong + " of 24", Given::full, x -> call.of(x, wrong));
        }
        Due.outOfBounds(what + " without a block", RescueBench::new, x -> call.of(x, 0));
    }

    private static void bytes() {
        Due.by("What a BLOCK has.");
        Due.only("a file's first block", Given::desk, y -> y.bytes(1), Given.block(1, 2, 7, 9, 8, 7, 6, 5));
        Due.only("changed behind a search", Given::desk, y -> y.bytes(0), Given.block(1, 2, 0, 3));
        Due.only("the last", Given::desk, y -> y.bytes(4), 5);
        Due.only("the last of 24", Given::full, y -> y.bytes(23), 7 * 23);
    }

    private static void reach() {
        Due.by("REACH: what it was.");
        RescueBench x = new RescueBench();
        Due.same("at first", x.reach(23), 4);
        Due.same("then", x.reach(1), 23);
        Due.same("and then", x.reach(1), 1);
        Due.same("as it is", x.count(4), 1);
        Due.by("IllegalArgumentException: it is not 1 to 23.");
        for (int wrong : new int[] {0, -1, 24, LEAST, MOST}) {
            Due.badArgument("reach " + wrong, Given::desk, y -> y.reach(wrong));
        }
    }

    private static RescueBench hand(int count) {
        RescueBench x = Given.open(Given.CRC);
        for (int i = 0; i < count; i++) {
            x.push(i * 3);
        }
        return x;
    }

    private static void push() {
        Due.by("A byte is pushed: how many the HAND has; NONE, doing nothing: it has 36.");
        RescueBench x = new RescueBench();
        for (int i = 1; i <= 36; i++) {
            Due.same("how many", x.push(i % 2 * 255), i);
            Due.same("bytes in the hand", x.count(2), i);
        }
        Due.same("the 36th", hand(35).push(0), 36);
        Due.only("the 37th", () -> hand(36), y -> y.push(0), -1);
        Due.only("the 37th of a full bench", Given::full, y -> y.push(255), -1);
        RescueBench again = hand(36);
        again.write(0);
        Due.same("the first behind a write", again.push(5), 1);
        Due.by("IllegalArgumentException: it is not 0 to 255.");
        for (int wrong : new int[] {-1, 256, LEAST, MOST}) {
            Due.badArgument("push " + wrong, Given::desk, y -> y.push(wrong));
        }
        Due.badArgument("push 256 on a full hand: the argument is asked first", () -> hand(36), y -> y.push(256));
    }

    /** A disk of so many blocks, and a hand of so many bytes that are right, or not. */
    private static Supplier<RescueBench> pressed(int blocks, int bytes, boolean right) {
        return () -> {
            RescueBench x = blocks(blocks);
            Given.pushMany(x, 9, bytes);
            x.goals(0, right ? 1 : 2);
            return x;
        };
    }

    private static void write() {
        Due.by("The HAND (empty then) is WRITTEN: the first new BLOCK;");
        RescueBench x = Given.open(Given.SUM);
        Due.same("an empty hand", x.write(0), 0);
        Due.same("as a block", x.bytes(0), Given.block(1, 2, 0, 3));
        Given.push(x, 9, 9, 9, 9, 9);
        Due.same("five bytes", x.write(0), 1);
        Due.same("empty then", x.count(2), 0);
        Due.same("the next one", x.write(0), 3);
        Due.same("is of the empty hand", x.bytes(3), Given.block(1, 2, 0, 3));
        int[] lengths = {0, 4, 5, 12, 13, 20, 21, 28, 29, 36};
        for (int length : lengths) {
            int needed = (length + 4 + 7) / 8;
            RescueBench y = pressed(24 - needed, length, true).get();
            Due.same("just room for " + length, y.write(0), 24 - needed);
            Due.same("full then", y.count(0), 24);
            Due.same("empty then", y.count(2), 0);
        }
        Due.by("-1, and the HAND stays: its bytes are no right DATA;");
        for (int length : lengths) {
            Due.only("not right: " + length, pressed(2, length, false), y -> y.write(0), -1);
        }
        RescueBench later = pressed(2, 3, false).get();
        later.write(0);
        later.goals(0, 1);
        Due.same("right then", later.write(0), 2);
        Due.same("with all of the hand", later.bytes(2), Given.fileOf(1, 2, Given.SUM, 9, 9, 9)[0]);
        Due.by("-2, and it stays: there would be more than 24 BLOCKS (-1 is asked first).");
        for (int length : lengths) {
            int needed = (length + 4 + 7) / 8;
            Due.only("no room for " + length, pressed(25 - needed, length, true), y -> y.write(0), -2);
            Due.only("no room at all for " + length, pressed(24, length, true), y -> y.write(0), -2);
            Due.only("nor right: " + length, pressed(25 - needed, length, false), y -> y.write(0), -1);
        }
    }

    private static void check() {
        Due.by("The CHECK byte that a MAKE has for a FILE with the HAND as DATA (whether these are right or not).");
        for (int check = 0; check < 3; check++) {
            int kind = check;
            for (int length : new int[] {0, 1, 36}) {
                Supplier<RescueBench> right = () -> {
                    RescueBench x = new RescueBench();
                    Given.openMake(x, 9, 9, (kind + 1) % 3);
                    Given.openMake(x, 201, 102, kind);
                    Given.pushMany(x, 203, length);
                    return x;
                };
                Supplier<RescueBench> wrong = () -> {
                    RescueBench x = right.get();
                    x.goals(1, 0);
                    return x;
                };
                int[] ahead = Given.many(203, 3 + length);
                ahead[0] = 201;
                ahead[1] = 102;
                ahead[2] = length;
                int due = Given.checkOf(check, ahead);
                ToLongFunction<RescueBench> call = x -> x.check(1);
                Due.only("right data, check " + check, right, call, due);
                Due.only("data that are not right, check " + check, wrong, call, due);
            }
        }
        RescueBench bare = new RescueBench();
        bare.make(255, 2, Given.SUM);
        bare.push(255);
        Due.same("without edges and goals", bare.check(0), 1);
    }

    private static void count() {
        Due.by("0 BLOCKS, 1 MAKES, 2 bytes in the HAND, 3 FILES, 4 REACH, 5 LOOKS of the latest SEARCH (20,001 if there"
                + " were more; 0 ahead of any); NONE for others.");
        int[] desk = {5, 2, 3, 2, 3, 4 * 2 + 3};
        for (int what = 0; what < 6; what++) {
            int w = what;
            Due.only("count " + what, Given::desk, x -> x.count(w), desk[what]);
        }
        int[] full = {24, 6, 36, 0, 4, 0};
        for (int what = 0; what < 6; what++) {
            int w = what;
            Due.only("count " + what + " of a full bench", Given::full, x -> x.count(w), full[what]);
        }
        for (int other : new int[] {-1, 6, 7, LEAST, MOST}) {
            Due.only("count " + other, Given::desk, x -> x.count(other), -1);
        }
        RescueBench x = Given.open(Given.SUM);
        x.reach(23);
        x.block(Given.block(1, 2, 36, 9, 9, 9, 9, 9));
        Given.blocks(x, Given.block(Given.many(9, 8)), 23);
        Due.same("looks ahead of any search", x.count(5), 0);
        x.torn(0);
        Due.same("torn is none", x.count(5), 0);
        Due.same("too many looks", x.search(), -2);
        Due.same("if there were more", x.count(5), 20001);
        Due.same("no files", x.count(3), 0);
        x.reach(1);
        Due.same("still of the latest search", x.count(5), 20001);
        x.search();
        Due.same("then of the next", x.count(5), 24 + 1 + 1 + 1 + 1);
    }
}
