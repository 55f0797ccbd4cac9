import com.sun.management.ThreadMXBean;
import java.lang.management.ManagementFactory;
import java.util.function.Supplier;

/** What the calls of a run make: all of them live in one room, so none but 'answer' and 'rule' may make anything. */
public final class RoomTest extends Making {
    private static final ThreadMXBean MACHINE = (ThreadMXBean) ManagementFactory.getThreadMXBean();
    // Less than the least object, which has 16 bytes, in each call; the machine's own is far below.
    private static final int TIMES = 200, NOTHING = 8 * TIMES;

    public static void main(String[] args) {
        Calls.Size size = new Calls.Size(40, 30, 160, 40, 780);
        // The first time the machine itself makes what it needs for a call.
        everyCall(size, false);
        everyCall(size, true);
        runStaysSmall(false);
        runStaysSmall(true);
        due.end("RoomTest");
    }

    private static long made() {
        return MACHINE.getThreadAllocatedBytes(Thread.currentThread().getId());
    }

    private static void everyCall(Calls.Size size, boolean asked) {
        for (Calls.Call call : Calls.in(size)) {
            int places = call.ranges().length;
            int[] least = new int[places];
            int[] greatest = new int[places];
            for (int i = 0; i < places; i++) {
                least[i] = call.ranges()[i].from();
                greatest[i] = call.ranges()[i].to();
            }
            makesNothing(call.shown(least), Offices::full, x -> call.answer().of(x, least), asked);
            makesNothing(call.shown(greatest), Offices::full, x -> call.answer().of(x, greatest), asked);
        }
        makesNothing("day of all", RoomTest::open, WorkCoder::day, asked);
        makesNothing("first of all", RoomTest::doubts, WorkCoder::first, asked);
        makesNothing("recode of all", RoomTest::stale, WorkCoder::recode, asked);
    }

    private interface Asking {
        long of(WorkCoder x);
    }

    private static void makesNothing(String shown, Supplier<WorkCoder> making, Asking call, boolean asked) {
        WorkCoder x = making.get();
        long before = made();
        for (int i = 0; i < TIMES; i++) {
            call.of(x);
        }
        long bytes = made() - before;
        if (asked) {
            due.holds(shown + " makes nothing; it made " + bytes + " bytes in " + TIMES + " calls", bytes < NOTHING);
        }
    }

    private static WorkCoder open() {
        WorkCoder x = withCodes(40);
        pairsOfParts(x, 80);
        return x;
    }

    private static WorkCoder doubts() {
        WorkCoder x = open();
        x.day();
        return x;
    }

    private static WorkCoder stale() {
        WorkCoder x = open();
        x.rule(0, 0, 1);
        x.day();
        x.drop(0);
        return x;
    }

    /** An office with all that it may have: some 210 objects of a dozen fields, and 460 elements. */
    private static void runStaysSmall(boolean asked) {
        long before = made();
        WorkCoder x = Offices.full();
        long bytes = made() - before;
        if (asked) {
            due.is("it is full", x.answer(0, 0, 0), FULL);
            due.holds("a full office has " + bytes + " bytes", bytes < 40000);
        }
    }
}
