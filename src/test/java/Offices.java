/** Offices in which each number of each call has both its limits. */
final class Offices extends Making {
    private Offices() {
    }

    // 'told' answers -1 for what an item has not, so the first and the last item have all of it.

    static WorkCoder one() {
        WorkCoder x = withCodes(1);
        x.other(-1);
        x.answer(0, 0, 0);
        x.rule(0, 0, 1);
        x.day();
        x.second(0, 0, 0);
        return x;
    }

    static WorkCoder two() {
        WorkCoder x = withCodes(2);
        x.other(-1);
        x.other(0);
        x.answer(1, 0, 0);
        x.rule(0, 0, 1);
        x.rule(0, 1, 1);
        return settled(x, 1);
    }

    static WorkCoder full() {
        WorkCoder x = withCodes(40);
        for (int i = 0; i < 30; i++) {
            x.other(i - 1);
        }
        pairsOfParts(x, 80);
        for (int i = 0; i < 40; i++) {
            x.rule(0, i, 1);
        }
        return settled(x, 159);
    }

    private static WorkCoder settled(WorkCoder x, int last) {
        x.day();
        due.is("all are settled at once", x.settle(0, 0, 0), last + 1);
        x.second(0, 1, 0);
        x.second(last, 1, 0);
        return x;
    }
}
