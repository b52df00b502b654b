import com.sun.management.ThreadMXBean;
import java.lang.management.ManagementFactory;

/** All calls of one run live in one room: what the dearest of them make is counted in bytes of this thread. */
public final class RoomTest {
    private static final int CALLS = 512;
    // The room has 7.3 million fields and elements; eight bytes for the widest of them, and an object has a header.
    private static final long ROOM = 7_300_000L * 8;
    private static final ThreadMXBean THREADS = (ThreadMXBean) ManagementFactory.getThreadMXBean();
    private static final Check CHECK = new Check("RoomTest");

    public static void main(String[] args) {
        made();
        runsMakeNothing();
        dearestCalls();
        CHECK.end();
    }

    private static long bytes() {
        return THREADS.getThreadAllocatedBytes(Thread.currentThread().getId());
    }

    private static void made() {
        new GuestFrames(400);
        long before = bytes();
        GuestFrames machine = new GuestFrames(400);
        long made = bytes() - before;
        CHECK.holds("a new object is small: " + made, machine.count(0) == 7 && made < 40_000);
    }

    /** A loop that makes things, lets them go, calls, throws and catches. */
    private static Guest busy() {
        Guest guest = new Guest(400);
        int pair = guest.machine.type(0, 2, 2);
        guest.method(Guest.I, 1, 3, Guest.I, 16, 7, 21, 0, 112, 172);
        guest.handler(18, 22, 23, 1);
        guest.method(0, 3, 4, 0,
            1, 58, 1,
            187, pair, 58, 2,
            25, 2, 25, 1, 181, pair, 1,
            25, 2, 58, 1,
            3, 184, 0, 87, 1,
            87, 5, 188, 11, 87,
            16, 9, 189, 58, 1,
            167, 255, 226);
        return guest;
    }

    private static void runsMakeNothing() {
        Guest guest = busy();
        CHECK.due("methods", guest.machine.count(1), 2);
        CHECK.same("outcome", guest.outcome(1, 0, 0, 20000), "2 0");
        CHECK.holds("things were made", guest.machine.count(4) > 10);
        long before = bytes();
        for (int i = 0; i < 20; i++) guest.machine.run(1, 0, 0, 20000);
        long made = bytes() - before;
        CHECK.holds("twenty long runs make nothing: " + made, made < 20_000);
    }

    /** Refused methods of 200 bytes with 8 handlers; ten feeds and eight handlers go before each. */
    private static void dearestCalls() {
        Guest guest = new Guest(400);
        int[] code = new int[200];
        long before = bytes();
        long most = 0;
        for (int call = 0; call < CALLS; call++) {
            guest.feed(code);
            for (int i = 0; i < 8; i++) guest.handler(0, 200, 0, 0);
            long now = bytes();
            guest.machine.method(0, 0, 12, 0);
            most = Math.max(most, bytes() - now);
        }
        CHECK.holds("a method makes little: " + most, most < 2_000);
        CHECK.holds("all calls have room: " + (bytes() - before), bytes() - before < ROOM / 10);
    }
}
