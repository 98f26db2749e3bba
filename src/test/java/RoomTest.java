import com.sun.management.ThreadMXBean;
import java.lang.management.ManagementFactory;

/** All calls of a run live in one room, so calls other than make and those that throw must not make objects. */
public final class RoomTest {
    /** The room has some 7.3 million fields and elements; a bench with six makes may take a hundredth of it. */
    private static final long BYTES_OF_A_BENCH = 73_000L * 4;
    private static final long BYTES_OF_CALLS = 4096;

    public static void main(String[] args) {
        use(new RescueBench());
        ThreadMXBean threads = (ThreadMXBean) ManagementFactory.getThreadMXBean();
        long own = Thread.currentThread().getId();
        long start = threads.getThreadAllocatedBytes(own);
        RescueBench x = new RescueBench();
        given(x);
        long made = threads.getThreadAllocatedBytes(own);
        for (int i = 0; i < 40; i++) {
            ask(x);
        }
        long asked = threads.getThreadAllocatedBytes(own);
        System.out.println("a bench with six makes: " + (made - start) + " bytes; calls: " + (asked - made));
        Due.holds("a bench is small", made - start < BYTES_OF_A_BENCH);
        Due.holds("calls make nothing", asked - made < BYTES_OF_CALLS);
        Due.end();
    }

    private static void use(RescueBench x) {
        given(x);
        ask(x);
    }

    private static void given(RescueBench x) {
        for (int make = 0; make < 6; make++) {
            Given.openMake(x, 1, 2, make % 3);
        }
    }

    private static void ask(RescueBench x) {
        Given.pushMany(x, 0, 36);
        x.write(0);
        x.change(x.count(0) - 1, x.bytes(0));
        x.block(0);
        x.search();
        x.torn(0);
        x.best();
        x.cost();
        x.covers(0);
        x.nobody(0);
        x.check(0);
        if (x.count(3) > 0) {
            x.file(0, 5);
            x.data(0, 0);
        }
    }
}
