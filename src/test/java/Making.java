/** What the tests make often. Each test runs in a machine of its own, so 'due' counts for it alone. */
class Making {
    static final int BAD = -1, NOT = -2, FULL = -3, CLASH = -5;
    static final int MIN = Integer.MIN_VALUE, MAX = Integer.MAX_VALUE;
    static final int ALL_TRADES = 1023;
    static final Due due = new Due();

    /** A new object with so many codes at the top. */
    static WorkCoder withCodes(int codes) {
        WorkCoder x = new WorkCoder();
        for (int i = 0; i < codes; i++) {
            x.code(-1);
        }
        return x;
    }

    /** So many answers of two parts, all of trade 0 and schooling 0. */
    static void pairsOfParts(WorkCoder x, int answers) {
        for (int i = 0; i < answers; i++) {
            x.answer(1, 0, 0);
        }
    }

    /** A new answer of one part with these words; the item's number. */
    static int item(WorkCoder x, int trade, int schooling, int... words) {
        int item = 2 * x.answer(0, trade, schooling);
        for (int word : words) {
            x.put(item, word);
        }
        return item;
    }

    /** An item that is coded by the hand of coder 0; one that likeness would code has no place here. */
    static int hand(WorkCoder x, int code, int... words) {
        int item = item(x, 0, x.count(1) % 10, words);
        x.day();
        due.is("a hand's item is in doubt alone", x.settle(item, 0, code), 1);
        return item;
    }

    /** A rule for all trades that needs these words. */
    static int needing(WorkCoder x, int rank, int code, int... words) {
        int rule = x.rule(rank, code, ALL_TRADES);
        for (int word : words) {
            x.with(rule, word, 1);
        }
        return rule;
    }

    /** The words from .. to, both among them. */
    static int[] words(int from, int to) {
        int[] words = new int[to - from + 1];
        for (int i = 0; i < words.length; i++) {
            words[i] = from + i;
        }
        return words;
    }
}
