import java.util.ArrayList;
import java.util.List;
import java.util.function.Supplier;

/**
 * What is answered BAD, NOT or FULL changes nothing: of two offices made alike one gets the refused call, and
 * then both are asked the same. An office is used for 512 calls at most, so each is asked a part of it all.
 */
public final class RefusedTest extends Making {
    private static final int PART = 200;

    private interface Asking {
        long of(WorkCoder x);
    }

    private record Ask(String shown, Asking asking) {
    }

    /** What is made alike each time, everything that is asked of it, and what it answers if nothing was refused. */
    private record Office(String name, Supplier<WorkCoder> making, List<List<Ask>> parts, List<long[]> answers) {
    }

    public static void main(String[] args) {
        Office fresh = office("new", WorkCoder::new, portrait(new int[] {0}, 1, 1, 1, 3));
        refusedNumbers(fresh, new Calls.Size(0, 0, 0, 0, 0));

        Office mixed = office("mixed", RefusedTest::mixed, portrait(words(0, 23), 4, 3, 4, 60));
        mixedIsMixed();
        refusedNumbers(mixed, new Calls.Size(4, 3, 23, 4, 1));
        refusedStates(mixed);
        holes(mixed);

        Office full = office("full", RefusedTest::full, portrait(new int[] {0, 1, 2, 78, 157, 158, 159}, 40, 30, 40, 5));
        refusedNumbers(full, new Calls.Size(40, 30, 160, 40, 780));
        refusedForRoom(full);
        asking(mixed);
        due.end("RefusedTest");
    }

    // ---- offices

    /** Items in every state and by every means, and some that a little more or less of LEAST or GAP would change. */
    private static WorkCoder mixed() {
        WorkCoder x = new WorkCoder();
        x.code(-1);
        x.code(0);
        x.code(1);
        x.code(-1);
        x.other(-1);
        x.other(0);
        x.other(-1);
        x.carry(1, 1, 1);
        x.carry(2, 1, 1);
        x.carry(2, 2, 1);
        x.carry(3, 0, 1);
        x.exclude(0, 7, 1);
        // At the edges, where calls are refused below, some of it is set: neither setting nor clearing goes unseen.
        x.carry(0, 0, 1);
        x.exclude(3, 59, 1);
        x.spell(0, 10);
        x.spell(59, 11);
        x.spell(6, 5);
        x.spell(5, 8);
        x.with(needing(x, 2, 1, 1), 9, 2);
        x.drop(needing(x, 5, 1, 30));
        needing(x, 2, 3, 2);
        x.with(x.rule(5, 0, 2), 30, 1);
        x.with(3, 59, 2);
        mixedItems(x);
        return x;
    }

    private static void mixedItems(WorkCoder x) {
        x.answer(1, 1, 1);
        x.put(0, 1);
        x.put(0, 3);
        x.put(1, 1);
        x.put(1, 2);
        item(x, 1, 1, 1, 2);
        int hand = item(x, 3, 0, 20, 21, 22, 23);
        int other = item(x, 4, 0, 40, 41);
        item(x, 1, 2, 30);
        x.day();
        x.settle(hand, 4, 2);
        x.settle(other, 4, 3);
        x.second(hand, 5, 3);
        x.second(0, 5, 1);
        item(x, 5, 0, 20, 21, 22);
        x.day();
        x.with(3, 31, 1);
        // Nearest to code 3 by 666 of 1000, to 2 by 500, by 600 and 400 to both, by 400 and 500 to both, by 250 to 3.
        item(x, 6, 0, 20, 40, 41);
        item(x, 6, 1, 20, 21, 40);
        item(x, 6, 2, 20, 21, 22, 40, 41);
        item(x, 6, 3, 20, 21, 40, 41);
        item(x, 6, 4, 41, 50, 51);
        item(x, 6, 5, 5, 6);
    }

    /** If one of these were missing, a change of it could not be seen. */
    private static void mixedIsMixed() {
        WorkCoder x = mixed();
        int[] counts = {4, 12, 13, 4, 6, 5, 2, 1, 1, 3};
        for (int what = 0; what < counts.length; what++) {
            due.is("mixed: count " + what, x.count(what), counts[what]);
        }
        due.is("mixed: one by a rule", x.told(0, 2), 0);
        due.is("mixed: one by a hand", x.told(4, 2), 2);
        due.is("mixed: one by an item", x.told(10, 2), 1);
        due.is("mixed: one that is stale", x.told(8, 5), 1);
        due.is("mixed: two with seconds", x.agree(0), 2);
        due.is("mixed: one that just has LEAST", x.near(2, 14), 500);
        due.is("mixed: one that just has GAP", x.near(2, 16) - x.near(3, 16), 200);
        due.is("mixed: one that lacks LEAST alone", x.near(3, 20), 250);
        due.is("mixed: one that lacks GAP alone", x.near(3, 18) - x.near(2, 18), 100);
    }

    private static WorkCoder full() {
        WorkCoder x = new WorkCoder();
        for (int i = 0; i < 40; i++) {
            x.code(i / 2 - 1);
        }
        for (int i = 0; i < 30; i++) {
            x.other(i / 3 - 1);
        }
        pairsOfParts(x, 79);
        x.answer(1, 9, 9);
        for (int i = 0; i < 40; i++) {
            x.rule(0, i, 1);
        }
        x.carry(39, 29, 1);
        x.exclude(39, 59, 1);
        x.put(0, 1);
        x.day();
        x.settle(2, 3, 39);
        x.second(2, 4, 38);
        return x;
    }

    // ---- what is asked

    private static Ask ask(String shown, Asking asking) {
        return new Ask(shown, asking);
    }

    /** All that an office can be asked, of these items and so many codes, others, rules and words. */
    private static List<Ask> portrait(int[] items, int codes, int others, int rules, int words) {
        List<Ask> asks = new ArrayList<>();
        counts(asks, codes, others);
        for (int item : items) {
            ofItem(asks, item, items, codes, rules);
        }
        for (int i = 0; i < rules; i++) {
            int rule = i;
            asks.add(ask("reach of " + rule, x -> x.reach(rule)));
        }
        days(asks, items);
        wordsAsWritten(asks, items);
        whatWas(asks, items, codes, others, rules, words);
        madeNext(asks);
        return asks;
    }

    private static void counts(List<Ask> asks, int codes, int others) {
        for (int i = 0; i < 10; i++) {
            int what = i;
            asks.add(ask("count " + what, x -> x.count(what)));
            asks.add(ask("pair " + what, x -> x.quarrel(what)));
            asks.add(ask("agree " + what, x -> x.agree(what)));
        }
        for (int i = 0; i < codes; i++) {
            int code = i;
            asks.add(ask("coded " + code, x -> x.coded(code)));
        }
        for (int i = 0; i < others; i++) {
            int other = i;
            asks.add(ask("least of " + other, x -> x.total(other, 0)));
            asks.add(ask("greatest of " + other, x -> x.total(other, 1)));
        }
        asks.add(ask("first", WorkCoder::first));
    }

    private static void ofItem(List<Ask> asks, int item, int[] items, int codes, int rules) {
        toldOf(asks, item);
        asks.add(ask("set of " + item, x -> x.set(item, 0)));
        asks.add(ask("alike to " + item, x -> x.set(item, 1)));
        asks.add(ask("ruled " + item, x -> x.ruled(item)));
        asks.add(ask("liked " + item, x -> x.liked(item)));
        for (int that : items) {
            asks.add(ask("likeness of " + item + " and " + that, x -> x.likeness(item, that)));
        }
        for (int i = 0; i < codes; i++) {
            int code = i;
            asks.add(ask("near of " + code + " and " + item, x -> x.near(code, item)));
        }
        for (int i = 0; i < rules; i++) {
            int rule = i;
            asks.add(ask("whether " + rule + " holds for " + item, x -> x.holds(rule, item)));
        }
    }

    private static void toldOf(List<Ask> asks, int item) {
        for (int i = 0; i < 6; i++) {
            int what = i;
            asks.add(ask("told " + what + " of " + item, x -> x.told(item, what)));
        }
    }

    private static void days(List<Ask> asks, int[] items) {
        startPart(asks);
        asks.add(ask("day", WorkCoder::day));
        for (int item : items) {
            toldOf(asks, item);
        }
        startPart(asks);
        asks.add(ask("recode", WorkCoder::recode));
        asks.add(ask("day after recode", WorkCoder::day));
        for (int item : items) {
            toldOf(asks, item);
        }
        startPart(asks);
    }

    /** Two words that stand for one look like one, until each stands for itself again. */
    private static void wordsAsWritten(List<Ask> asks, int[] items) {
        for (int i = 0; i < 60; i++) {
            int word = i;
            asks.add(ask("for what " + word + " stood", x -> x.spell(word, word)));
        }
        for (int item : items) {
            asks.add(ask("words of " + item, x -> x.set(item, 0)));
            asks.add(ask("alike in words to " + item, x -> x.set(item, 1)));
            asks.add(ask("likeness in words to " + item, x -> x.likeness(items[0], item)));
        }
        startPart(asks);
    }

    private static void whatWas(List<Ask> asks, int[] items, int codes, int others, int rules, int words) {
        for (int i = 0; i < words; i++) {
            int word = i == words - 1 ? 59 : i;
            for (int j = 0; j < codes; j++) {
                int code = j;
                asks.add(ask("whether " + code + " excluded " + word, x -> x.exclude(code, word, 0)));
            }
            for (int j = 0; j < rules; j++) {
                int rule = j;
                asks.add(ask("what " + word + " was to " + rule, x -> x.with(rule, word, 0)));
            }
            for (int item : items) {
                asks.add(ask("put of " + word + " to " + item, x -> x.put(item, word)));
            }
        }
        for (int i = 0; i < codes * others; i++) {
            int code = i / others;
            int other = i % others;
            asks.add(ask("whether " + code + " carried to " + other, x -> x.carry(code, other, 0)));
        }
        for (int i = 0; i < rules; i++) {
            int rule = i;
            asks.add(ask("drop of " + rule, x -> x.drop(rule)));
        }
        startPart(asks);
    }

    private static void madeNext(List<Ask> asks) {
        asks.add(ask("next code", x -> x.code(-1)));
        asks.add(ask("next other code", x -> x.other(-1)));
        asks.add(ask("next answer", x -> x.answer(0, 0, 0)));
        asks.add(ask("next rule", x -> x.rule(0, 0, 1)));
        asks.add(ask("items then", x -> x.count(2)));
        asks.add(ask("day then", WorkCoder::day));
    }

    /** What is asked after this is asked of another office: the asks before it may have changed the one. */
    private static void startPart(List<Ask> asks) {
        asks.add(null);
    }

    private static List<List<Ask>> inParts(List<Ask> asks) {
        List<List<Ask>> parts = new ArrayList<>();
        List<Ask> part = new ArrayList<>();
        for (Ask ask : asks) {
            if (ask != null) {
                part.add(ask);
            }
            if (ask == null || part.size() == PART) {
                parts.add(part);
                part = new ArrayList<>();
            }
        }
        parts.add(part);
        return parts;
    }

    private static Office office(String name, Supplier<WorkCoder> making, List<Ask> asks) {
        List<List<Ask>> parts = inParts(asks);
        List<long[]> answers = new ArrayList<>();
        for (List<Ask> part : parts) {
            WorkCoder x = making.get();
            answers.add(part.stream().mapToLong(ask -> ask.asking.of(x)).toArray());
        }
        return new Office(name, making, parts, answers);
    }

    // ---- what is refused

    private static void refused(Office office, String shown, long want, Asking call) {
        for (int i = 0; i < office.parts.size(); i++) {
            WorkCoder x = office.making.get();
            due.is(office.name + ": " + shown, call.of(x), want);
            sameAnswers(office, i, x, "after " + shown);
        }
    }

    private static void sameAnswers(Office office, int part, WorkCoder x, String when) {
        long[] want = office.answers.get(part);
        for (int i = 0; i < want.length; i++) {
            Ask ask = office.parts.get(part).get(i);
            due.is(office.name + ": " + ask.shown + ", " + when, ask.asking.of(x), want[i]);
        }
    }

    /** Each call with one wrong number, the others being each the least or the greatest that is allowed. */
    private static void refusedNumbers(Office office, Calls.Size size) {
        for (Calls.Call call : Calls.in(size)) {
            for (int place = 0; place < call.ranges().length; place++) {
                for (int edge : call.ranges()[place].edges()) {
                    if (!call.ranges()[place].has(edge)) {
                        oneWrong(office, call, place, edge);
                    }
                }
            }
        }
    }

    private static void oneWrong(Office office, Calls.Call call, int place, int wrong) {
        int places = call.ranges().length;
        for (int greatest = 0; greatest < 1 << places; greatest++) {
            if ((greatest >> place & 1) == 1) {
                continue;
            }
            int[] with = new int[places];
            for (int i = 0; i < places; i++) {
                Calls.Range range = call.ranges()[i];
                with[i] = i == place ? wrong : (greatest >> i & 1) == 1 ? range.to() : range.from();
            }
            refused(office, call.shown(with), call.bad(), x -> call.answer().of(x, with));
        }
    }

    private static void refusedStates(Office office) {
        refused(office, "put to a new one that has it", NOT, x -> x.put(14, 40));
        refused(office, "put to a new one that has it, standing for another", NOT, x -> x.put(22, 6));
        refused(office, "put to one in doubt", NOT, x -> x.put(1, 50));
        refused(office, "put to one in doubt that has it", NOT, x -> x.put(1, 1));
        refused(office, "put to one by a rule", NOT, x -> x.put(0, 50));
        refused(office, "put to one by a rule, of what stands for a word that it has", NOT, x -> x.put(0, 6));
        refused(office, "put to one by an item", NOT, x -> x.put(10, 50));
        refused(office, "put to one by a hand", NOT, x -> x.put(4, 50));
        refused(office, "drop of a dropped rule", NOT, x -> x.drop(1));
        refused(office, "a dropped rule needs", BAD, x -> x.with(1, 1, 1));
        refused(office, "a dropped rule bars", BAD, x -> x.with(1, 59, 2));
        refused(office, "reach of a dropped rule", BAD, x -> x.reach(1));
        refused(office, "settle a new one", NOT, x -> x.settle(12, 0, 0));
        refused(office, "settle one by a rule", NOT, x -> x.settle(0, 0, 0));
        refused(office, "settle a stale one", NOT, x -> x.settle(8, 0, 3));
        refused(office, "settle one by an item", NOT, x -> x.settle(10, 0, 0));
        refused(office, "settle one by this hand", NOT, x -> x.settle(4, 4, 0));
        refused(office, "second of a new one", NOT, x -> x.second(12, 0, 0));
        refused(office, "second of one in doubt", NOT, x -> x.second(1, 0, 0));
        refused(office, "second by the hand", NOT, x -> x.second(6, 4, 0));
        refused(office, "second by the hand of one that has a second", NOT, x -> x.second(4, 4, 2));
        refused(office, "liked that is nothing", NOT, x -> x.liked(20));
        refused(office, "ruled that is nothing", NOT, x -> x.ruled(20));
        refused(office, "no more pairs", BAD, x -> x.quarrel(1));
    }

    /** Item 3 would be part 1 of an answer of one part; 24 and 25 of an answer that is not yet made. */
    private static void holes(Office office) {
        for (int hole : new int[] {3, 5, 23, 24, 25}) {
            refused(office, "put to " + hole, BAD, x -> x.put(hole, 1));
            refused(office, "settle " + hole, BAD, x -> x.settle(hole, 0, 0));
            refused(office, "second of " + hole, BAD, x -> x.second(hole, 0, 0));
            refused(office, "told of " + hole, BAD, x -> x.told(hole, 0));
        }
    }

    private static void refusedForRoom(Office office) {
        refused(office, "code at the top", FULL, x -> x.code(-1));
        refused(office, "code under the last", FULL, x -> x.code(39));
        refused(office, "other at the top", FULL, x -> x.other(-1));
        refused(office, "other under the last", FULL, x -> x.other(29));
        refused(office, "answer of one part", FULL, x -> x.answer(0, 0, 0));
        refused(office, "answer of two parts", FULL, x -> x.answer(1, 9, 9));
        refused(office, "rule", FULL, x -> x.rule(9, 39, 1023));
        refused(office, "rule of the least", FULL, x -> x.rule(0, 0, 0));
    }

    /** The asks that only look change nothing, either: all of them first, then again. */
    private static void asking(Office office) {
        List<Ask> looks = new ArrayList<>();
        counts(looks, 4, 3);
        ofItem(looks, 0, words(0, 23), 4, 4);
        ofItem(looks, 20, words(0, 23), 4, 4);
        looks.add(ask("reach", x -> x.reach(0)));
        for (int i = 0; i < office.parts.size(); i++) {
            WorkCoder x = office.making.get();
            looks.forEach(look -> look.asking.of(x));
            sameAnswers(office, i, x, "after looking");
        }
    }
}
