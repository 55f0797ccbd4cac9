import java.util.function.Supplier;

/**
 * Each number of each call at the last that is allowed and the first that is not, on both sides, together
 * with each such number in the call's other places: in an office with none, one, two, and a full one.
 */
public final class LimitTest extends Making {
    public static void main(String[] args) {
        everyCall("none", WorkCoder::new, new Calls.Size(0, 0, 0, 0, 0));
        everyCall("one", Offices::one, new Calls.Size(1, 1, 1, 1, 0));
        everyCall("two", Offices::two, new Calls.Size(2, 2, 2, 2, 1));
        everyCall("full", Offices::full, new Calls.Size(40, 30, 160, 40, 780));
        due.end("LimitTest");
    }

    private static void everyCall(String office, Supplier<WorkCoder> making, Calls.Size size) {
        for (Calls.Call call : Calls.in(size)) {
            everyEdge(office, making, call, new int[call.ranges().length], 0);
        }
    }

    /** Goes through all edges of the number at a place, and within each through those of the places after it. */
    private static void everyEdge(String office, Supplier<WorkCoder> making, Calls.Call call, int[] with, int place) {
        if (place < with.length) {
            for (int edge : call.ranges()[place].edges()) {
                with[place] = edge;
                everyEdge(office, making, call, with, place + 1);
            }
            return;
        }
        long answered = call.answer().of(making.get(), with);
        String shown = office + ": " + call.shown(with);
        if (call.allows(with)) {
            due.holds(shown + " is allowed, and answered " + answered, answered != call.bad());
        } else {
            due.is(shown, answered, call.bad());
        }
    }
}
