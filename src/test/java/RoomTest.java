import com.sun.management.ThreadMXBean;
import java.lang.management.ManagementFactory;

/** What an object and its 512 calls make is small: rows are made once and used again. */
public final class RoomTest {
    private static final ThreadMXBean THREADS = (ThreadMXBean) ManagementFactory.getThreadMXBean();

    public static void main(String[] args) {
        String court = "court 12 99" + ";thing 20".repeat(6) + ";person 0 1".repeat(6);
        // as many values as there may be, and as deep as it may go
        String rule = "hold 1+thing" + "+most*1%7".repeat(15) + " if " + "not[".repeat(5)
                + "rank+1+1+1+1+1<due+knights" + "]".repeat(5);
        // the first one loads the classes, which is not the object's own
        Checks.due("warmed up", new SpoonCourt().count(0), 0);
        long before = made();
        SpoonCourt x = new SpoonCourt();
        long born = made() - before;
        Checks.court(x, court);
        for (int i = 0; i < 6; i++) {
            Checks.due("the rule", Checks.rule(x, rule), i);
        }
        x.force(0);
        asks(x);
        before = made();
        long start = System.nanoTime();
        for (int i = 0; i < 32; i++) {
            asks(x);
        }
        long asked = made() - before;
        long millis = (System.nanoTime() - start) / 1000000;
        System.out.println("bytes of a new object " + born + ", of 512 dear calls " + asked + ", " + millis + " ms");
        Checks.due("a new object is below 20,000 bytes", born < 20000 ? 1 : 0, 1);
        Checks.due("calls make next to nothing", asked < 20000 ? 1 : 0, 1);
        long whole = wholeRun(court, rule);
        System.out.println("bytes of a whole run " + whole);
        Checks.due("a whole run is below 150,000 bytes", whole < 150000 ? 1 : 0, 1);
        Checks.finish("RoomTest");
    }

    /** All that is kept at most, and refused texts besides, over some 512 calls; what the test makes itself too. */
    private static long wholeRun(String court, String rule) {
        long before = made();
        SpoonCourt x = new SpoonCourt();
        Checks.court(x, court);
        for (int i = 0; i < 7; i++) {
            Checks.rule(x, i % 2 == 0 ? rule + ";" : rule);
        }
        for (int i = 0; i < 6; i++) {
            Checks.rule(x, rule);
        }
        for (int i = 0; i < 100; i++) {
            x.hour();
            x.image(i % 4);
            x.back(3 - i % 4);
            x.undo();
        }
        return made() - before;
    }

    private static long made() {
        return THREADS.getThreadAllocatedBytes(Thread.currentThread().getId());
    }

    /** Sixteen calls, one of them the dearest. */
    private static void asks(SpoonCourt x) {
        x.least(0, 5, 60);
        x.ahead(0, 100, 1);
        x.dubbed(5, 0);
        x.spare(0, 8, 1);
        x.lay(0, 60, 0);
        x.held(100, 6);
        x.place(5);
        x.stripped(1);
        x.gold(9999, 5);
        x.rests(0, 1, 20, 0);
        x.ring(0);
        x.ruled(0);
        x.look(0);
        x.years(10, 60, 50, 0);
        x.image(3);
        x.back(3);
    }
}
