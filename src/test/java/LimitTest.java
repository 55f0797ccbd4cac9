import java.util.function.Supplier;

/**
 * Each number of each call at the last that is allowed and the first that is not, on both sides, together
 * with each such number in the call's other places: in an office with none, with one, and that is full.
 */
public final class LimitTest extends Making {
    public static void main(String[] args) {
        everyCall("none", WorkCoder::new, new Calls.Size(0, 0, 0, 0, 0));
        everyCall("one", LimitTest::one, new Calls.Size(1, 1, 1, 1, 0));
        everyCall("two", LimitTest::two, new Calls.Size(2, 2, 2, 2, 1));
        everyCall("full", LimitTest::full, new Calls.Size(40, 30, 160, 40, 780));
        due.end("LimitTest");
    }

    // 'told' answers -1 for what an item has not, so the first and the last item have all of it.

    private static WorkCoder one() {
        WorkCoder x = withCodes(1);
        x.other(-1);
        x.answer(0, 0, 0);
        x.rule(0, 0, 1);
        x.day();
        x.second(0, 0, 0);
        return x;
    }

    private static WorkCoder two() {
        WorkCoder x = withCodes(2);
        x.other(-1);
        x.other(0);
        x.answer(1, 0, 0);
        x.rule(0, 0, 1);
        x.rule(0, 1, 1);
        return settled(x, 1);
    }

    private static WorkCoder full() {
        WorkCoder x = withCodes(40);
        for (int i = 0; i < 30; i++) {
            x.other(i - 1);
        }
        pairsOfParts(x, 80);
        for (int i = 0; i < 40; i++) {
            x.rule(0, i, 1);
        }
        return settled(x, 159);
    }

    private static WorkCoder settled(WorkCoder x, int last) {
        x.day();
        due.is("all are settled at once", x.settle(0, 0, 0), last + 1);
        x.second(0, 1, 0);
        x.second(last, 1, 0);
        return x;
    }

    private static void everyCall(String office, Supplier<WorkCoder> making, Calls.Size size) {
        for (Calls.Call call : Calls.in(size)) {
            everyEdge(office, making, call, new int[call.ranges().length], 0);
        }
    }

    /** Goes through all edges of the number at a place, and within each through those of the places after it. */
    private static void everyEdge(String office, Supplier<WorkCoder> making, Calls.Call call, int[] with, int place) {
        if (place < with.length) {
            for (int edge : call.ranges()[place].edges()) {
                with[place] = edge;
                everyEdge(office, making, call, with, place + 1);
            }
            return;
        }
        long answered = call.answer().of(making.get(), with);
        String shown = office + ": " + call.shown(with);
        if (call.allows(with)) {
            due.holds(shown + " is allowed, and answered " + answered, answered != call.bad());
        } else {
            due.is(shown, answered, call.bad());
        }
    }
}
