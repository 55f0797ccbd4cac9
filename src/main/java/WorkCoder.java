/**
 * An office that puts written answers under a scheme's codes: by rules in ranks, by likeness to
 * what is coded, and by hands. The words of its document (../shared/DOC.md) are used throughout.
 */
public final class WorkCoder {
    public static final int BAD = -1, NOT = -2, FULL = -3;

    private static final int WORDS = 60, CODES = 40, OTHERS = 30, ANSWERS = 80, RULES = 40;
    private static final int ITEMS = 2 * ANSWERS;
    // Ranks, trades, schoolings and coders are all 0 .. 9.
    private static final int LAST_DIGIT = 9;
    private static final int ALL_TRADES = 1023;
    private static final int THOUSAND = 1000;

    private static final int NONE = -1;
    private static final int CLASH = -5;
    private static final long BAD_AGREEMENT = -1000000000L;

    private static final int NEW = 0, CODED = 1, DOUBT = 2;
    private static final int BY_RULE = 0, BY_ITEM = 1, BY_HAND = 2;
    private static final int NEITHER = 0, NEEDED = 1, BARRED = 2;

    private final Scheme scheme = new Scheme(CODES);
    private final Scheme otherScheme = new Scheme(OTHERS);
    // For each code the words that it excludes, and the codes of the other scheme it carries to.
    private final long[] excluded = new long[CODES];
    private final long[] carried = new long[CODES];
    private final int[] standsFor = new int[WORDS];

    // An item has the place of its number; part 1 of an answer of one part is null.
    private final Item[] items = new Item[ITEMS];
    private int answers = 0;
    private final Rule[] rules = new Rule[RULES];
    private int ruleCount = 0;

    private int least = 500;
    private int gap = 200;
    // Filled anew for each item that is looked at, so that no call has to make a row.
    private final int[] nears = new int[CODES];

    public WorkCoder() {
        for (int word = 0; word < standsFor.length; word++) {
            standsFor[word] = word;
        }
    }

    // ---- schemes, words

    public int code(int under) {
        return scheme.grow(under);
    }

    public int exclude(int code, int word, int is) {
        if (!isCode(code) || !isWord(word) || !isIn(is, 0, 1)) {
            return BAD;
        }
        int was = bit(excluded[code], word);
        excluded[code] = withBit(excluded[code], word, is);
        return was;
    }

    public int spell(int word, int is) {
        if (!isWord(word) || !isWord(is)) {
            return BAD;
        }
        int was = standsFor[word];
        standsFor[word] = is;
        for (int i = 0; i < items.length; i++) {
            Item item = items[i];
            if (item != null) {
                item.set = setOf(item.words);
            }
        }
        return was;
    }

    public int other(int under) {
        return otherScheme.grow(under);
    }

    public int carry(int code, int other, int is) {
        if (!isCode(code) || !otherScheme.has(other) || !isIn(is, 0, 1)) {
            return BAD;
        }
        int was = bit(carried[code], other);
        carried[code] = withBit(carried[code], other, is);
        return was;
    }

    // ---- answers

    public int answer(int sort, int trade, int schooling) {
        if (!isIn(sort, 0, 1) || !isDigit(trade) || !isDigit(schooling)) {
            return BAD;
        }
        int part = 2 * answers;
        if (answers >= ANSWERS || part + 1 >= items.length) {
            return FULL;
        }
        items[part] = new Item(trade, schooling);
        if (sort == 1) {
            items[part + 1] = new Item(trade, schooling);
        }
        answers++;
        return answers - 1;
    }

    public int put(int item, int word) {
        Item found = itemAt(item);
        if (found == null || !isWord(word)) {
            return BAD;
        }
        if (found.state != NEW || bit(found.words, word) == 1) {
            return NOT;
        }
        found.words = withBit(found.words, word, 1);
        found.set = setOf(found.words);
        return Long.bitCount(found.words);
    }

    public int set(int item, int what) {
        Item found = itemAt(item);
        if (found == null || !isIn(what, 0, 1)) {
            return BAD;
        }
        return what == 0 ? Long.bitCount(found.set) : countAlike(found);
    }

    // ---- rules

    public int rule(int rank, int code, int trades) {
        if (!isDigit(rank) || !isCode(code) || !isIn(trades, 0, ALL_TRADES)) {
            return BAD;
        }
        if (ruleCount >= rules.length) {
            return FULL;
        }
        rules[ruleCount] = new Rule(rank, code, trades);
        ruleCount++;
        return ruleCount - 1;
    }

    public int with(int rule, int word, int how) {
        Rule found = ruleAt(rule);
        if (found == null || found.dropped || !isWord(word) || !isIn(how, NEITHER, BARRED)) {
            return BAD;
        }
        return found.treat(word, how);
    }

    public int drop(int rule) {
        Rule found = ruleAt(rule);
        if (found == null) {
            return BAD;
        }
        if (found.dropped) {
            return NOT;
        }
        found.dropped = true;
        return 1;
    }

    public int holds(int rule, int item) {
        Rule found = ruleAt(rule);
        Item about = itemAt(item);
        if (found == null || about == null) {
            return BAD;
        }
        return found.fits(about) ? 1 : 0;
    }

    public int ruled(int item) {
        Item found = itemAt(item);
        return found == null ? BAD : byRules(found, NONE);
    }

    public int quarrel(int i) {
        int before = 0;
        for (int one = 0; one < rules.length; one++) {
            for (int two = one + 1; two < rules.length; two++) {
                if (!doQuarrel(one, two)) {
                    continue;
                }
                if (before == i) {
                    return 100 * one + two;
                }
                before++;
            }
        }
        return BAD;
    }

    public int reach(int rule) {
        Rule found = ruleAt(rule);
        if (found == null || found.dropped) {
            return BAD;
        }
        int reached = 0;
        for (int i = 0; i < items.length; i++) {
            Item item = items[i];
            if (item != null && byRules(item, NONE) != byRules(item, rule)) {
                reached++;
            }
        }
        return reached;
    }

    // ---- likeness

    public int gap(int least, int gap) {
        if (!isIn(least, 1, THOUSAND) || !isIn(gap, 0, THOUSAND)) {
            return BAD;
        }
        this.least = least;
        this.gap = gap;
        return 1;
    }

    public int likeness(int a, int b) {
        Item one = itemAt(a);
        Item two = itemAt(b);
        return one == null || two == null ? BAD : one.likenessTo(two);
    }

    public int near(int code, int item) {
        Item found = itemAt(item);
        if (!isCode(code) || found == null) {
            return BAD;
        }
        fillNears(found);
        return nears[code];
    }

    public int liked(int item) {
        Item found = itemAt(item);
        return found == null ? BAD : byLikeness(found);
    }

    // ---- coding

    public int day() {
        // Planned for all before it is done for any: likeness goes by the state at the beginning.
        for (int i = 0; i < items.length; i++) {
            if (isOpen(items[i])) {
                plan(items[i]);
            }
        }
        int done = 0;
        for (int i = 0; i < items.length; i++) {
            if (isOpen(items[i]) && items[i].followPlan()) {
                done++;
            }
        }
        return done;
    }

    public int first() {
        int first = NOT;
        int most = 0;
        for (int i = 0; i < items.length; i++) {
            if (isInDoubt(items[i])) {
                int alike = countDoubtsAlike(items[i]);
                if (alike > most) {
                    most = alike;
                    first = i;
                }
            }
        }
        return first;
    }

    public int settle(int item, int coder, int code) {
        Item found = itemAt(item);
        if (found == null || !isDigit(coder) || !isCode(code)) {
            return BAD;
        }
        if (!isInDoubt(found)) {
            return NOT;
        }
        int settled = 0;
        for (int i = 0; i < items.length; i++) {
            if (isInDoubt(items[i]) && found.isAlike(items[i])) {
                items[i].take(code, BY_HAND, coder);
                settled++;
            }
        }
        return settled;
    }

    public int recode() {
        int renewed = 0;
        for (int i = 0; i < items.length; i++) {
            if (isStale(items[i])) {
                items[i].renew();
                renewed++;
            }
        }
        return renewed;
    }

    public int second(int item, int coder, int code) {
        Item found = itemAt(item);
        if (found == null || !isDigit(coder) || !isCode(code)) {
            return BAD;
        }
        boolean ownHand = found.means == BY_HAND && found.by == coder;
        if (found.state != CODED || ownHand) {
            return NOT;
        }
        found.second = code;
        return 1;
    }

    public int told(int item, int what) {
        Item found = itemAt(item);
        if (found == null) {
            return BAD;
        }
        switch (what) {
            case 0:
                return found.state;
            case 1:
                return found.code;
            case 2:
                return found.means;
            case 3:
                return found.by;
            case 4:
                return found.second;
            case 5:
                return isStale(found) ? 1 : 0;
            default:
                return BAD;
        }
    }

    // ---- counts

    public int coded(int code) {
        if (!isCode(code)) {
            return BAD;
        }
        return countCodedWith(scheme.below(1L << code));
    }

    public int total(int other, int what) {
        if (!otherScheme.has(other) || !isIn(what, 0, 1)) {
            return BAD;
        }
        long below = otherScheme.below(1L << other);
        long counting = 0;
        for (int code = 0; code < carried.length; code++) {
            boolean some = (carried[code] & below) != 0;
            boolean beside = (carried[code] & ~below) != 0;
            if (some && (what == 1 || !beside)) {
                counting |= 1L << code;
            }
        }
        return countCodedWith(counting);
    }

    public long agree(int what) {
        long n = countSeconds();
        long a = countAgreeing();
        switch (what) {
            case 0:
                return n;
            case 1:
                return a;
            case 2:
                return n * a - chance();
            case 3:
                return n * n - chance();
            case 4:
                // In a scheme of one code a second coder has no other to give.
                return scheme.size > 1 ? a : a + countState(CODED) - n;
            case 5:
                return a + countState(CODED) - n;
            default:
                return BAD_AGREEMENT;
        }
    }

    public int count(int what) {
        switch (what) {
            case 0:
                return scheme.size;
            case 1:
                return answers;
            case 2:
                return countState(NEW) + countState(CODED) + countState(DOUBT);
            case 3:
                return ruleCount;
            case 4:
                return countState(NEW);
            case 5:
                return countState(CODED);
            case 6:
                return countState(DOUBT);
            case 7:
                return countQuarrels();
            case 8:
                return countStale();
            case 9:
                return otherScheme.size;
            default:
                return BAD;
        }
    }

    // ---- what numbers may be, and sets of numbers as bits

    private static boolean isIn(int number, int from, int to) {
        return number >= from && number <= to;
    }

    private static boolean isDigit(int number) {
        return isIn(number, 0, LAST_DIGIT);
    }

    private boolean isWord(int number) {
        return number >= 0 && number < standsFor.length;
    }

    private boolean isCode(int number) {
        return scheme.has(number);
    }

    private Item itemAt(int number) {
        return number >= 0 && number < items.length ? items[number] : null;
    }

    private Rule ruleAt(int number) {
        return number >= 0 && number < rules.length ? rules[number] : null;
    }

    private static int bit(long bits, int place) {
        return (int) (bits >>> place & 1L);
    }

    private static long withBit(long bits, int place, int is) {
        return is == 1 ? bits | 1L << place : bits & ~(1L << place);
    }

    // A word stands for one other, and that one for itself: spelling is not followed further.
    private long setOf(long words) {
        long set = 0;
        for (int word = 0; word < standsFor.length; word++) {
            if (bit(words, word) == 1) {
                set |= 1L << standsFor[word];
            }
        }
        return set;
    }

    // ---- by rules

    /** A code, CLASH, or NOT for nothing; as if the rule 'without' were dropped (NONE: none). */
    private int byRules(Item item, int without) {
        Rule leader = ruleAt(leaderFor(item, without));
        if (leader == null) {
            return NOT;
        }
        for (int i = 0; i < rules.length; i++) {
            Rule rule = rules[i];
            if (i != without && rule != null && rule.rank == leader.rank
                    && rule.code != leader.code && rule.fits(item)) {
                return CLASH;
            }
        }
        return leader.code;
    }

    /** The least of the rules with the least rank that hold, or NONE. */
    private int leaderFor(Item item, int without) {
        int leader = NONE;
        int rank = LAST_DIGIT + 1;
        for (int i = 0; i < rules.length; i++) {
            Rule rule = rules[i];
            if (i != without && rule != null && rule.rank < rank && rule.fits(item)) {
                leader = i;
                rank = rule.rank;
            }
        }
        return leader;
    }

    private boolean doQuarrel(int one, int two) {
        Rule left = ruleAt(one);
        Rule right = ruleAt(two);
        return left != null && right != null && left.quarrelsWith(right);
    }

    private int countQuarrels() {
        int pairs = 0;
        for (int one = 0; one < rules.length; one++) {
            for (int two = one + 1; two < rules.length; two++) {
                if (doQuarrel(one, two)) {
                    pairs++;
                }
            }
        }
        return pairs;
    }

    private boolean isStale(Item item) {
        return item != null && item.means == BY_RULE && byRules(item, NONE) != item.code;
    }

    private int countStale() {
        int stale = 0;
        for (int i = 0; i < items.length; i++) {
            if (isStale(items[i])) {
                stale++;
            }
        }
        return stale;
    }

    // ---- by likeness

    /** Fills the row of nears with each code's near of an item, which itself counts for nothing. */
    private void fillNears(Item item) {
        for (int code = 0; code < nears.length; code++) {
            nears[code] = 0;
        }
        long shut = scheme.below(codesExcluding(item.set));
        for (int i = 0; i < items.length; i++) {
            Item coded = items[i];
            if (coded != null && coded != item && isCode(coded.code) && bit(shut, coded.code) == 0) {
                nears[coded.code] = Math.max(nears[coded.code], item.likenessTo(coded));
            }
        }
    }

    private long codesExcluding(long set) {
        long codes = 0;
        for (int code = 0; code < excluded.length; code++) {
            if ((excluded[code] & set) != 0) {
                codes |= 1L << code;
            }
        }
        return codes;
    }

    /** The code that likeness gives to an item, or NOT. */
    private int byLikeness(Item item) {
        fillNears(item);
        int best = 0;
        int greatest = 0;
        // What is greatest among the others; where there is no other code it stays 0.
        int next = 0;
        for (int code = 0; code < nears.length; code++) {
            if (nears[code] > greatest) {
                next = greatest;
                greatest = nears[code];
                best = code;
            } else if (nears[code] > next) {
                next = nears[code];
            }
        }
        return greatest >= least && greatest - next >= gap ? best : NOT;
    }

    /** The least of the items with a code that are most like an item, or NONE. */
    private int nearestWith(int code, Item item) {
        int nearest = NONE;
        int greatest = 0;
        for (int i = 0; i < items.length; i++) {
            Item coded = items[i];
            if (coded != null && coded != item && coded.code == code) {
                int alike = item.likenessTo(coded);
                if (alike > greatest) {
                    greatest = alike;
                    nearest = i;
                }
            }
        }
        return nearest;
    }

    // ---- a day

    private static boolean isOpen(Item item) {
        return item != null && item.state != CODED;
    }

    private static boolean isInDoubt(Item item) {
        return item != null && item.state == DOUBT;
    }

    private void plan(Item item) {
        int ruled = byRules(item, NONE);
        if (ruled == CLASH) {
            item.plan(NONE, NONE, NONE);
        } else if (ruled == NOT) {
            planByLikeness(item);
        } else {
            item.plan(ruled, BY_RULE, leaderFor(item, NONE));
        }
    }

    private void planByLikeness(Item item) {
        int code = byLikeness(item);
        if (code == NOT) {
            item.plan(NONE, NONE, NONE);
        } else {
            item.plan(code, BY_ITEM, nearestWith(code, item));
        }
    }

    // ---- counting items

    private int countAlike(Item item) {
        int alike = 0;
        for (int i = 0; i < items.length; i++) {
            if (items[i] != null && item.isAlike(items[i])) {
                alike++;
            }
        }
        return alike;
    }

    private int countDoubtsAlike(Item item) {
        int alike = 0;
        for (int i = 0; i < items.length; i++) {
            if (isInDoubt(items[i]) && item.isAlike(items[i])) {
                alike++;
            }
        }
        return alike;
    }

    private int countState(int state) {
        int found = 0;
        for (int i = 0; i < items.length; i++) {
            if (items[i] != null && items[i].state == state) {
                found++;
            }
        }
        return found;
    }

    private int countCodedWith(long codes) {
        int found = 0;
        for (int i = 0; i < items.length; i++) {
            Item item = items[i];
            if (item != null && isCode(item.code) && bit(codes, item.code) == 1) {
                found++;
            }
        }
        return found;
    }

    private int countSeconds() {
        int seconds = 0;
        for (int i = 0; i < items.length; i++) {
            if (items[i] != null && items[i].second != NONE) {
                seconds++;
            }
        }
        return seconds;
    }

    private int countAgreeing() {
        int agreeing = 0;
        for (int i = 0; i < items.length; i++) {
            Item item = items[i];
            if (item != null && item.second != NONE && item.second == item.code) {
                agreeing++;
            }
        }
        return agreeing;
    }

    /** The document's e, over the items with a second alone. */
    private long chance() {
        long sum = 0;
        for (int code = 0; code < scheme.size; code++) {
            long have = 0;
            long seconds = 0;
            for (int i = 0; i < items.length; i++) {
                Item item = items[i];
                if (item != null && item.second != NONE) {
                    have += item.code == code ? 1 : 0;
                    seconds += item.second == code ? 1 : 0;
                }
            }
            sum += have * seconds;
        }
        return sum;
    }

    /** Codes in the order in which they were made, each under a lesser one or at the top. */
    private static final class Scheme {
        // No scheme is larger than the first one.
        final int[] above = new int[CODES];
        final int room;
        int size = 0;

        Scheme(int room) {
            this.room = Math.min(room, CODES);
        }

        boolean has(int code) {
            return code >= 0 && code < size && code < above.length;
        }

        int grow(int under) {
            if (under != NONE && !has(under)) {
                return BAD;
            }
            if (size >= room || size >= above.length) {
                return FULL;
            }
            above[size] = under;
            size++;
            return size - 1;
        }

        /** A set of codes with all that are below one of them. */
        long below(long tops) {
            long found = tops;
            // One pass is enough: the code above is lesser, so it is decided already.
            for (int code = 0; code < size && code < above.length; code++) {
                if (above[code] != NONE && bit(found, above[code]) == 1) {
                    found |= 1L << code;
                }
            }
            return found;
        }
    }

    /** One part of an answer. */
    private static final class Item {
        final int trade;
        final int schooling;
        long words = 0;
        // Kept beside the words, so that no comparison has to go through the spelling.
        long set = 0;
        int state = NEW;
        int code = NONE;
        int means = NONE;
        int by = NONE;
        int second = NONE;
        int plannedCode = NONE;
        int plannedMeans = NONE;
        int plannedBy = NONE;

        Item(int trade, int schooling) {
            this.trade = trade;
            this.schooling = schooling;
        }

        boolean isAlike(Item that) {
            return set == that.set && trade == that.trade && schooling == that.schooling;
        }

        int likenessTo(Item that) {
            int either = Long.bitCount(set | that.set);
            return either == 0 ? 0 : THOUSAND * Long.bitCount(set & that.set) / either;
        }

        void take(int newCode, int newMeans, int newBy) {
            state = CODED;
            code = newCode;
            means = newMeans;
            by = newBy;
        }

        void renew() {
            state = NEW;
            code = NONE;
            means = NONE;
            by = NONE;
            second = NONE;
        }

        void plan(int newCode, int newMeans, int newBy) {
            plannedCode = newCode;
            plannedMeans = newMeans;
            plannedBy = newBy;
        }

        /** Whether the item is coded by it; else it is in doubt. */
        boolean followPlan() {
            if (plannedCode == NONE) {
                state = DOUBT;
                return false;
            }
            take(plannedCode, plannedMeans, plannedBy);
            return true;
        }
    }

    /** A rule, with its words as bits. */
    private static final class Rule {
        final int rank;
        final int code;
        final int trades;
        long needed = 0;
        long barred = 0;
        boolean dropped = false;

        Rule(int rank, int code, int trades) {
            this.rank = rank;
            this.code = code;
            this.trades = trades;
        }

        /** Makes a word needed, barred or neither, and answers what it was. */
        int treat(int word, int how) {
            int was = bit(needed, word) == 1 ? NEEDED : bit(barred, word) == 1 ? BARRED : NEITHER;
            needed = withBit(needed, word, how == NEEDED ? 1 : 0);
            barred = withBit(barred, word, how == BARRED ? 1 : 0);
            return was;
        }

        boolean fits(Item item) {
            return !dropped && bit(trades, item.trade) == 1
                    && (needed & ~item.set) == 0 && (barred & item.set) == 0;
        }

        boolean quarrelsWith(Rule that) {
            return !dropped && !that.dropped && rank == that.rank && code != that.code
                    && (trades & that.trades) != 0
                    && (needed & that.barred) == 0 && (barred & that.needed) == 0;
        }
    }
}
