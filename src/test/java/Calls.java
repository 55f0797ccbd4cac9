import java.util.List;

/** Every call that takes numbers, with the range of each number in an office of a given size. */
final class Calls {
    static final long BAD = -1, BAD_AGREEMENT = -1000000000L;

    interface Answer {
        long of(WorkCoder x, int[] with);
    }

    /** From .. to are allowed, both among them; none is if 'to' is less. */
    record Range(int from, int to) {
        boolean has(int number) {
            return number >= from && number <= to;
        }

        /** On both sides the last that is allowed and the first that is not, and far beyond. */
        int[] edges() {
            return new int[] {Integer.MIN_VALUE, from - 64, from - 1, from, to, to + 1, to + 64, Integer.MAX_VALUE};
        }
    }

    record Call(String name, long bad, Answer answer, Range... ranges) {
        boolean allows(int[] with) {
            boolean all = true;
            for (int i = 0; i < ranges.length; i++) {
                all &= ranges[i].has(with[i]);
            }
            return all;
        }

        String shown(int[] with) {
            StringBuilder text = new StringBuilder(name + "(");
            for (int i = 0; i < ranges.length; i++) {
                text.append(i == 0 ? "" : ", ").append(with[i]);
            }
            return text.append(")").toString();
        }
    }

    /** How many there are of what is made. Every item up to the last is to be one, but for holes told apart. */
    record Size(int codes, int others, int items, int rules, int pairs) {
    }

    private Calls() {
    }

    private static Call call(String name, Answer answer, Range... ranges) {
        return new Call(name, BAD, answer, ranges);
    }

    static List<Call> in(Size size) {
        Range under = new Range(-1, size.codes - 1);
        Range code = new Range(0, size.codes - 1);
        Range otherUnder = new Range(-1, size.others - 1);
        Range other = new Range(0, size.others - 1);
        Range item = new Range(0, size.items - 1);
        Range rule = new Range(0, size.rules - 1);
        Range pair = new Range(0, size.pairs - 1);
        Range word = new Range(0, 59);
        Range digit = new Range(0, 9);
        Range bit = new Range(0, 1);
        Range how = new Range(0, 2);
        Range trades = new Range(0, 1023);
        Range least = new Range(1, 1000);
        Range gap = new Range(0, 1000);
        Range sixth = new Range(0, 5);
        return List.of(
            call("code", (x, w) -> x.code(w[0]), under),
            call("exclude", (x, w) -> x.exclude(w[0], w[1], w[2]), code, word, bit),
            call("spell", (x, w) -> x.spell(w[0], w[1]), word, word),
            call("other", (x, w) -> x.other(w[0]), otherUnder),
            call("carry", (x, w) -> x.carry(w[0], w[1], w[2]), code, other, bit),
            call("answer", (x, w) -> x.answer(w[0], w[1], w[2]), bit, digit, digit),
            call("put", (x, w) -> x.put(w[0], w[1]), item, word),
            call("set", (x, w) -> x.set(w[0], w[1]), item, bit),
            call("rule", (x, w) -> x.rule(w[0], w[1], w[2]), digit, code, trades),
            call("with", (x, w) -> x.with(w[0], w[1], w[2]), rule, word, how),
            call("drop", (x, w) -> x.drop(w[0]), rule),
            call("holds", (x, w) -> x.holds(w[0], w[1]), rule, item),
            call("ruled", (x, w) -> x.ruled(w[0]), item),
            call("quarrel", (x, w) -> x.quarrel(w[0]), pair),
            call("reach", (x, w) -> x.reach(w[0]), rule),
            call("gap", (x, w) -> x.gap(w[0], w[1]), least, gap),
            call("likeness", (x, w) -> x.likeness(w[0], w[1]), item, item),
            call("near", (x, w) -> x.near(w[0], w[1]), code, item),
            call("liked", (x, w) -> x.liked(w[0]), item),
            call("settle", (x, w) -> x.settle(w[0], w[1], w[2]), item, digit, code),
            call("second", (x, w) -> x.second(w[0], w[1], w[2]), item, digit, code),
            call("told", (x, w) -> x.told(w[0], w[1]), item, sixth),
            call("coded", (x, w) -> x.coded(w[0]), code),
            call("total", (x, w) -> x.total(w[0], w[1]), other, bit),
            new Call("agree", BAD_AGREEMENT, (x, w) -> x.agree(w[0]), sixth),
            call("count", (x, w) -> x.count(w[0]), new Range(0, 9)));
    }
}
