/** For each promise of the document: ordinary calls, its edges, and wrong inputs, worked out by hand. */
public final class PromiseTest extends Making {
    public static void main(String[] args) {
        newObject();
        code();
        exclude();
        excludeGoesByTheSet();
        spell();
        other();
        carry();
        answer();
        put();
        set();
        rule();
        with();
        drop();
        holds();
        ruled();
        quarrel();
        reach();
        gap();
        gapAtFirst();
        likeness();
        near();
        liked();
        likedAtItsEdges();
        day();
        dayGoesByItsBeginning();
        dayByLikeness();
        first();
        settle();
        recode();
        second();
        told();
        coded();
        total();
        agree();
        agreeBounds();
        count();
        due.end("PromiseTest");
    }

    private static void newObject() {
        WorkCoder x = new WorkCoder();
        for (int what = 0; what <= 9; what++) {
            due.is("1: count(" + what + ") of a new object", x.count(what), 0);
        }
        for (int what = 0; what <= 5; what++) {
            due.is("1: agree(" + what + ") of a new object", x.agree(what), 0);
        }
        due.is("1: day", x.day(), 0);
        due.is("1: first", x.first(), NOT);
        due.is("1: recode", x.recode(), 0);
        due.is("1: no item", x.told(0, 0), BAD);
        due.is("1: no rule", x.holds(0, 0), BAD);
        due.is("1: no pair", x.quarrel(0), BAD);
        x.code(-1);
        due.is("1: objects share nothing", new WorkCoder().count(0), 0);
    }

    private static void code() {
        WorkCoder x = new WorkCoder();
        due.is("2: under one that is not", x.code(0), BAD);
        due.is("2: -2", x.code(-2), BAD);
        due.is("2: least int", x.code(MIN), BAD);
        due.is("2: nothing was made", x.count(0), 0);
        due.is("2: at the top", x.code(-1), 0);
        due.is("2: under itself to be", x.code(1), BAD);
        due.is("2: under 0", x.code(0), 1);
        for (int i = 2; i < 40; i++) {
            due.is("2: chain", x.code(i - 1), i);
        }
        due.is("2: the 41st", x.code(-1), FULL);
        due.is("2: the 41st under 39", x.code(39), FULL);
        due.is("2: BAD goes before FULL", x.code(40), BAD);
        due.is("2: still 40", x.count(0), 40);
        hand(x, 39, 1);
        due.is("2: the way up from 39 leads to 0", x.coded(0), 1);
        due.is("2: the last code is a code", x.coded(39), 1);
    }

    private static void exclude() {
        WorkCoder x = withCodes(1);
        due.is("3: was not", x.exclude(0, 0, 1), 0);
        due.is("3: was", x.exclude(0, 0, 1), 1);
        due.is("3: was, and is no more", x.exclude(0, 0, 0), 1);
        due.is("3: was not again", x.exclude(0, 0, 0), 0);
        due.is("3: the last word", x.exclude(0, 59, 1), 0);
        due.is("3: the last word stays", x.exclude(0, 59, 1), 1);
        due.is("3: no such word", x.exclude(0, 60, 1), BAD);
        due.is("3: no word -1", x.exclude(0, -1, 1), BAD);
        due.is("3: no word of 64 more", x.exclude(0, 64, 1), BAD);
        due.is("3: no such code", x.exclude(1, 0, 1), BAD);
        due.is("3: no code -1", x.exclude(-1, 0, 1), BAD);
        due.is("3: is 2", x.exclude(0, 59, 2), BAD);
        due.is("3: is -1", x.exclude(0, 59, -1), BAD);
        due.is("3: BAD changed nothing", x.exclude(0, 59, 0), 1);
    }

    private static void excludeGoesByTheSet() {
        WorkCoder x = new WorkCoder();
        x.code(-1);
        x.code(0);
        x.code(1);
        x.code(0);
        hand(x, 2, 1, 2);
        int item = item(x, 9, 9, 1, 2);
        due.is("3: near before", x.near(2, item), 1000);
        x.exclude(0, 2, 1);
        due.is("3: shut two above", x.near(2, item), 0);
        x.exclude(0, 2, 0);
        due.is("3: open again", x.near(2, item), 1000);
        x.exclude(3, 2, 1);
        due.is("3: a code beside shuts nothing", x.near(2, item), 1000);
        x.exclude(1, 5, 1);
        due.is("3: a word that the set has not", x.near(2, item), 1000);
        x.spell(2, 5);
        due.is("3: what the word stands for is excluded", x.near(2, item), 0);
        x.exclude(1, 5, 0);
        x.exclude(2, 2, 1);
        due.is("3: the word itself is not in the set now", x.near(2, item), 1000);
        due.is("3: made under one that excludes", x.code(2), 4);
        hand(x, 4, 3, 2);
        x.spell(2, 2);
        due.is("3: a later code under it is shut, too", x.near(4, item), 0);
    }

    private static void spell() {
        WorkCoder x = withCodes(1);
        due.is("4: itself at first", x.spell(3, 4), 3);
        due.is("4: stood for 4", x.spell(3, 5), 4);
        due.is("4: stood for 5", x.spell(3, 3), 5);
        due.is("4: as at first", x.spell(3, 3), 3);
        due.is("4: the last word", x.spell(59, 0), 59);
        due.is("4: no such word", x.spell(60, 0), BAD);
        due.is("4: no word -1", x.spell(-1, 0), BAD);
        due.is("4: for no such word", x.spell(59, 60), BAD);
        due.is("4: for no word -1", x.spell(59, -1), BAD);
        due.is("4: BAD changed nothing", x.spell(59, 59), 0);
        int item = item(x, 0, 0, 1, 2);
        x.spell(1, 2);
        due.is("4: two words, one meaning", x.set(item, 0), 1);
        x.spell(2, 3);
        due.is("4: no chain: 1 stands for 2, 2 for 3", x.set(item, 0), 2);
        int two = item(x, 0, 0, 2);
        due.is("4: 2 stands for 3 alone", x.likeness(item, two), 500);
        x.spell(3, 1);
        due.is("4: what is stood for stands for itself here", x.likeness(item, two), 500);
        int rule = needing(x, 0, 0, 3);
        due.is("4: a rule needs what is in the set", x.holds(rule, item), 1);
        int other = needing(x, 0, 0, 1);
        due.is("4: the word as written is not in the set", x.holds(other, item), 0);
        due.is("4: a word put later is spelled, too", x.put(two, 1), 2);
        due.is("4: and they are alike", x.set(item, 1), 2);
        x.spell(1, 1);
        x.spell(2, 2);
        due.is("4: the words were kept", x.holds(other, item), 1);
        due.is("4: and the old meaning is gone", x.holds(rule, item), 0);
    }

    private static void other() {
        WorkCoder x = withCodes(5);
        due.is("5: under one that is not", x.other(0), BAD);
        due.is("5: -2", x.other(-2), BAD);
        due.is("5: at the top", x.other(-1), 0);
        due.is("5: the scheme's own codes are others", x.other(1), BAD);
        for (int i = 1; i < 30; i++) {
            due.is("5: chain", x.other(i - 1), i);
        }
        due.is("5: the 31st", x.other(-1), FULL);
        due.is("5: the 31st under 29", x.other(29), FULL);
        due.is("5: BAD goes before FULL", x.other(30), BAD);
        due.is("5: still 30", x.count(9), 30);
        due.is("5: the scheme is as it was", x.count(0), 5);
        x.carry(0, 29, 1);
        hand(x, 0, 1);
        due.is("5: the way up from 29 leads to 0", x.total(0, 0), 1);
    }

    private static void carry() {
        WorkCoder x = withCodes(2);
        due.is("6: no other code yet", x.carry(0, 0, 1), BAD);
        x.other(-1);
        due.is("6: was not", x.carry(0, 0, 1), 0);
        due.is("6: was", x.carry(0, 0, 1), 1);
        due.is("6: one code's alone", x.carry(1, 0, 0), 0);
        due.is("6: is no more", x.carry(0, 0, 0), 1);
        due.is("6: was not again", x.carry(0, 0, 1), 0);
        due.is("6: no such code", x.carry(2, 0, 1), BAD);
        due.is("6: no code -1", x.carry(-1, 0, 1), BAD);
        due.is("6: no such other code", x.carry(0, 1, 1), BAD);
        due.is("6: no other code -1", x.carry(0, -1, 1), BAD);
        due.is("6: is 2", x.carry(0, 0, 2), BAD);
        due.is("6: is -1", x.carry(0, 0, -1), BAD);
        due.is("6: BAD changed nothing", x.carry(0, 0, 1), 1);
    }

    private static void answer() {
        WorkCoder x = new WorkCoder();
        due.is("7: sort 2", x.answer(2, 0, 0), BAD);
        due.is("7: sort -1", x.answer(-1, 0, 0), BAD);
        due.is("7: trade 10", x.answer(0, 10, 0), BAD);
        due.is("7: trade -1", x.answer(0, -1, 0), BAD);
        due.is("7: schooling 10", x.answer(0, 0, 10), BAD);
        due.is("7: schooling -1", x.answer(0, 0, -1), BAD);
        due.is("7: none was made", x.count(1), 0);
        due.is("7: one part", x.answer(0, 9, 9), 0);
        due.is("7: two parts", x.answer(1, 0, 0), 1);
        due.is("7: item 0 is", x.told(0, 0), 0);
        due.is("7: item 1 is not", x.told(1, 0), BAD);
        due.is("7: item 2 is", x.told(2, 0), 0);
        due.is("7: item 3 is", x.told(3, 0), 0);
        due.is("7: item 4 is not yet", x.told(4, 0), BAD);
        for (int i = 2; i < 80; i++) {
            due.is("7: next", x.answer(1, 1, 1), i);
        }
        due.is("7: the 81st", x.answer(0, 1, 1), FULL);
        due.is("7: BAD goes before FULL", x.answer(0, 1, 10), BAD);
        due.is("7: 80 answers", x.count(1), 80);
        due.is("7: 159 items", x.count(2), 159);
        due.is("7: item 159 is", x.put(159, 59), 1);
        due.is("7: item 160 is not", x.put(160, 59), BAD);
    }

    private static void put() {
        WorkCoder x = withCodes(1);
        x.answer(1, 0, 0);
        due.is("8: first word", x.put(0, 59), 1);
        due.is("8: second word", x.put(0, 0), 2);
        due.is("8: again", x.put(0, 59), NOT);
        due.is("8: the other part has its own", x.put(1, 59), 1);
        x.spell(4, 0);
        due.is("8: words are counted, not meanings", x.put(0, 4), 3);
        due.is("8: no such item", x.put(2, 1), BAD);
        due.is("8: no item -1", x.put(-1, 1), BAD);
        due.is("8: greatest int", x.put(MAX, 1), BAD);
        due.is("8: no such word", x.put(0, 60), BAD);
        due.is("8: no word -1", x.put(0, -1), BAD);
        x.day();
        due.is("8: in doubt", x.put(0, 7), NOT);
        due.is("8: BAD goes before NOT", x.put(0, 60), BAD);
        x.settle(0, 0, 0);
        due.is("8: coded", x.put(0, 7), NOT);
        due.is("8: NOT put nothing", x.set(0, 0), 2);
        WorkCoder y = withCodes(1);
        int item = item(y, 0, 0, 1);
        int rule = needing(y, 0, 0, 1);
        y.day();
        y.drop(rule);
        y.recode();
        due.is("8: new again", y.put(item, 2), 2);
    }

    private static void set() {
        WorkCoder x = new WorkCoder();
        int one = item(x, 1, 2, 5, 6);
        due.is("9: two words", x.set(one, 0), 2);
        due.is("9: alike to itself", x.set(one, 1), 1);
        int two = item(x, 1, 2, 6);
        due.is("9: another set", x.set(one, 1), 1);
        x.put(two, 5);
        due.is("9: the same set", x.set(one, 1), 2);
        item(x, 2, 2, 5, 6);
        due.is("9: another trade", x.set(one, 1), 2);
        item(x, 1, 3, 5, 6);
        due.is("9: another schooling", x.set(one, 1), 2);
        int spelled = item(x, 1, 2, 5, 6, 7);
        x.spell(7, 6);
        due.is("9: alike by what the words stand for", x.set(one, 1), 3);
        due.is("9: three words, two meanings", x.set(spelled, 0), 2);
        int empty = item(x, 0, 0);
        due.is("9: no words", x.set(empty, 0), 0);
        item(x, 0, 0);
        due.is("9: empty ones are alike", x.set(empty, 1), 2);
        due.is("9: what 2", x.set(one, 2), BAD);
        due.is("9: what -1", x.set(one, -1), BAD);
        due.is("9: no such item", x.set(1, 0), BAD);
        due.is("9: no item -1", x.set(-1, 1), BAD);
        x.code(-1);
        x.day();
        x.settle(one, 0, 0);
        due.is("9: whatever the states", x.set(one, 1), 3);
        int edges = item(x, 0, 0, 0, 59);
        due.is("9: the first and the last word", x.set(edges, 0), 2);
    }

    private static void rule() {
        WorkCoder x = new WorkCoder();
        due.is("10: no code yet", x.rule(0, 0, 0), BAD);
        x.code(-1);
        due.is("10: no code -1", x.rule(0, -1, 0), BAD);
        due.is("10: rank 10", x.rule(10, 0, 0), BAD);
        due.is("10: rank -1", x.rule(-1, 0, 0), BAD);
        due.is("10: trades 1024", x.rule(0, 0, 1024), BAD);
        due.is("10: trades -1", x.rule(0, 0, -1), BAD);
        due.is("10: none was made", x.count(3), 0);
        due.is("10: no trades at all", x.rule(0, 0, 0), 0);
        due.is("10: all trades", x.rule(9, 0, 1023), 1);
        int item = item(x, 0, 0);
        due.is("10: no trades holds for none", x.holds(0, item), 0);
        due.is("10: without words it holds", x.holds(1, item), 1);
        for (int i = 2; i < 40; i++) {
            due.is("10: next", x.rule(0, 0, 512), i);
        }
        due.is("10: the 41st", x.rule(0, 0, 1), FULL);
        due.is("10: BAD goes before FULL", x.rule(0, 1, 1), BAD);
        x.drop(0);
        due.is("10: dropped ones keep their place", x.rule(0, 0, 1), FULL);
        due.is("10: trade 9 is bit 9", x.holds(39, item(x, 9, 0)), 1);
    }

    private static void with() {
        WorkCoder x = withCodes(1);
        int rule = x.rule(0, 0, 1023);
        int item = item(x, 0, 0, 0, 59);
        due.is("11: neither, now barred", x.with(rule, 59, 2), 0);
        due.is("11: barred", x.holds(rule, item), 0);
        due.is("11: barred, now needed", x.with(rule, 59, 1), 2);
        due.is("11: needed alone", x.holds(rule, item), 1);
        due.is("11: needed, now needed", x.with(rule, 59, 1), 1);
        due.is("11: needed, now barred", x.with(rule, 59, 2), 1);
        due.is("11: barred alone", x.holds(rule, item), 0);
        due.is("11: barred, now neither", x.with(rule, 59, 0), 2);
        due.is("11: neither", x.with(rule, 59, 0), 0);
        due.is("11: free again", x.holds(rule, item), 1);
        x.with(rule, 3, 1);
        due.is("11: a needed one is missing", x.holds(rule, item), 0);
        due.is("11: how 3", x.with(rule, 3, 3), BAD);
        due.is("11: how -1", x.with(rule, 3, -1), BAD);
        due.is("11: no such word", x.with(rule, 60, 1), BAD);
        due.is("11: no word -1", x.with(rule, -1, 1), BAD);
        due.is("11: no such rule", x.with(1, 3, 1), BAD);
        due.is("11: no rule -1", x.with(-1, 3, 1), BAD);
        due.is("11: no rule 40", x.with(40, 3, 1), BAD);
        due.is("11: BAD changed nothing", x.with(rule, 3, 0), 1);
        x.drop(rule);
        due.is("11: dropped", x.with(rule, 3, 1), BAD);
    }

    private static void drop() {
        WorkCoder x = withCodes(1);
        due.is("12: none yet", x.drop(0), BAD);
        x.rule(0, 0, 1023);
        x.rule(0, 0, 1023);
        due.is("12: no rule -1", x.drop(-1), BAD);
        due.is("12: no rule 2", x.drop(2), BAD);
        due.is("12: no rule 40", x.drop(40), BAD);
        due.is("12: dropped", x.drop(0), 1);
        due.is("12: it was", x.drop(0), NOT);
        int item = item(x, 0, 0);
        due.is("12: the other one stays", x.ruled(item), 0);
        x.drop(1);
        due.is("12: none is left", x.ruled(item), NOT);
    }

    private static void holds() {
        WorkCoder x = withCodes(1);
        int rule = needing(x, 0, 0, 1, 2);
        x.with(rule, 3, 2);
        int narrow = x.rule(0, 0, 4);
        due.is("13: both needed", x.holds(rule, item(x, 0, 0, 1, 2, 4)), 1);
        due.is("13: one of the needed", x.holds(rule, item(x, 0, 0, 1)), 0);
        due.is("13: a barred one", x.holds(rule, item(x, 0, 0, 1, 2, 3)), 0);
        due.is("13: trade 2 of 4", x.holds(narrow, item(x, 2, 0)), 1);
        due.is("13: trade 1 of 4", x.holds(narrow, item(x, 1, 0)), 0);
        due.is("13: trade 3 of 4", x.holds(narrow, item(x, 3, 0)), 0);
        due.is("13: no such rule", x.holds(2, 0), BAD);
        due.is("13: no rule -1", x.holds(-1, 0), BAD);
        due.is("13: no such item", x.holds(0, 1), BAD);
        due.is("13: no item -1", x.holds(0, -1), BAD);
        x.drop(rule);
        due.is("13: dropped", x.holds(rule, 0), 0);
        due.is("13: dropped, and no such item", x.holds(rule, 1), BAD);
    }

    private static void ruled() {
        WorkCoder x = withCodes(4);
        int item = item(x, 0, 0, 1);
        due.is("14: no rules", x.ruled(item), NOT);
        int late = needing(x, 9, 3, 1);
        due.is("14: rank 9", x.ruled(item), 3);
        int clash = needing(x, 9, 2, 1);
        due.is("14: two codes of one rank", x.ruled(item), CLASH);
        needing(x, 9, 2, 1);
        due.is("14: three rules", x.ruled(item), CLASH);
        int lead = needing(x, 4, 1, 1);
        due.is("14: a lesser rank goes before", x.ruled(item), 1);
        needing(x, 4, 1);
        due.is("14: two rules of one code", x.ruled(item), 1);
        needing(x, 0, 0, 2);
        due.is("14: one that does not hold", x.ruled(item), 1);
        int other = needing(x, 4, 0, 1);
        due.is("14: a later one clashes, too", x.ruled(item), CLASH);
        x.drop(other);
        x.drop(lead);
        due.is("14: the other rule of rank 4", x.ruled(item), 1);
        due.is("14: of a scheme's top or not, codes are unlike", x.ruled(item(x, 0, 0, 7)), 1);
        x.drop(late);
        x.drop(clash);
        due.is("14: no such item", x.ruled(1), BAD);
        due.is("14: no item -1", x.ruled(-1), BAD);
        due.is("14: no item 160", x.ruled(160), BAD);
    }

    private static void quarrel() {
        WorkCoder x = withCodes(3);
        x.rule(5, 0, 3);
        x.rule(5, 1, 6);
        x.rule(5, 2, 4);
        x.rule(5, 1, 1);
        x.rule(4, 2, 1023);
        x.rule(5, 0, 1023);
        int[] pairs = {1, 3, 102, 105, 205, 305};
        for (int i = 0; i < pairs.length; i++) {
            due.is("15: pair " + i, x.quarrel(i), pairs[i]);
        }
        due.is("15: no more", x.quarrel(6), BAD);
        due.is("15: -1", x.quarrel(-1), BAD);
        due.is("15: greatest int", x.quarrel(MAX), BAD);
        due.is("15: six pairs", x.count(7), 6);
        x.with(0, 8, 1);
        x.with(1, 8, 2);
        due.is("15: needed by the one, barred by the other", x.quarrel(0), 3);
        x.with(0, 8, 2);
        due.is("15: barred by both", x.quarrel(0), 1);
        x.with(1, 8, 1);
        due.is("15: barred by the one, needed by the other", x.quarrel(0), 3);
        x.with(0, 8, 1);
        due.is("15: needed by both", x.quarrel(0), 1);
        x.drop(1);
        due.is("15: dropped", x.quarrel(0), 3);
        due.is("15: and next", x.quarrel(1), 205);
        due.is("15: three pairs", x.count(7), 3);
        x.drop(5);
        due.is("15: the other one dropped", x.count(7), 1);
        x.spell(8, 9);
        due.is("15: spelling does not matter", x.quarrel(0), 3);
    }

    private static void reach() {
        WorkCoder x = withCodes(3);
        item(x, 0, 0, 1);
        item(x, 0, 0, 1, 2);
        item(x, 0, 0, 3);
        int one = needing(x, 1, 0, 1);
        due.is("16: code or nothing", x.reach(one), 2);
        int same = needing(x, 1, 0, 2);
        due.is("16: the same code by another rule is nothing else", x.reach(one), 1);
        due.is("16: of the same code", x.reach(same), 0);
        int clash = needing(x, 1, 1, 2);
        due.is("16: clash or code", x.reach(clash), 1);
        due.is("16: still a clash without it", x.reach(one), 1);
        int lower = needing(x, 2, 2);
        due.is("16: below all", x.reach(lower), 1);
        int above = needing(x, 0, 2);
        due.is("16: another code; item 2 has it anyway", x.reach(above), 2);
        due.is("16: reached by none", x.reach(clash), 0);
        x.drop(above);
        due.is("16: dropped", x.reach(above), BAD);
        due.is("16: no such rule", x.reach(5), BAD);
        due.is("16: no rule -1", x.reach(-1), BAD);
        due.is("16: no rule 40", x.reach(40), BAD);
        due.is("16: reach changed nothing", x.ruled(0), 0);
        x.day();
        due.is("16: whatever the states", x.reach(lower), 1);
    }

    private static void gap() {
        WorkCoder x = withCodes(2);
        due.is("17: least 0", x.gap(0, 0), BAD);
        due.is("17: least 1001", x.gap(1001, 0), BAD);
        due.is("17: gap -1", x.gap(1, -1), BAD);
        due.is("17: gap 1001", x.gap(1, 1001), BAD);
        hand(x, 0, 1, 2);
        int half = item(x, 9, 9, 1, 3, 4);
        due.is("17: 250", x.near(0, half), 250);
        due.is("17: 500 at first, whatever was BAD", x.liked(half), NOT);
        int more = item(x, 9, 9, 1);
        due.is("17: 500 is enough", x.liked(more), 0);
        due.is("17: 501", x.gap(501, 0), 1);
        due.is("17: 500 is too little", x.liked(more), NOT);
        due.is("17: edges", x.gap(1, 0), 1);
        due.is("17: 250 is 1 at least", x.liked(half), 0);
        due.is("17: edges", x.gap(1000, 1000), 1);
        int whole = item(x, 9, 9, 1, 2);
        due.is("17: 1000 is 1000 more than 0", x.liked(whole), 0);
        due.is("17: 500 is not 1000", x.liked(more), NOT);
        due.is("17: 501 more", x.gap(1, 501), 1);
        due.is("17: 500 is not 501 more than 0", x.liked(more), NOT);
        due.is("17: 500 more", x.gap(1, 500), 1);
        due.is("17: 500 is 500 more than 0", x.liked(more), 0);
    }

    private static void gapAtFirst() {
        WorkCoder x = withCodes(2);
        hand(x, 0, 1, 2, 3, 4, 5, 6, 7, 10, 11, 12, 13, 14);
        hand(x, 1, 1, 2, 3, 4, 5, 20, 21, 22, 23, 24, 25);
        int item = item(x, 9, 9, 1, 2, 3, 4, 5, 6, 7);
        due.is("17: 7 of 12", x.near(0, item), 583);
        due.is("17: 5 of 13", x.near(1, item), 384);
        due.is("17: 199 more is not 200, at first", x.liked(item), NOT);
        WorkCoder y = withCodes(2);
        int low = item(y, 0, 1, 1, 2);
        int high = item(y, 0, 2, 3, 4, 5);
        y.day();
        y.settle(low, 0, 0);
        y.settle(high, 0, 1);
        due.is("17: 600 and 400 are 200 apart, at first", y.liked(item(y, 9, 9, 1, 2, 3, 4, 5)), 1);
    }

    private static void likeness() {
        WorkCoder x = new WorkCoder();
        int one = item(x, 0, 0, 1, 2, 3);
        int two = item(x, 9, 9, 2, 3, 4, 5);
        due.is("18: 2 of 5", x.likeness(one, two), 400);
        due.is("18: the other way", x.likeness(two, one), 400);
        due.is("18: itself", x.likeness(one, one), 1000);
        int six = item(x, 0, 0, 1, 2, 3, 10, 11, 12);
        due.is("18: half", x.likeness(one, six), 500);
        due.is("18: 2 of 8", x.likeness(two, six), 250);
        int third = item(x, 0, 0, 1, 2);
        due.is("18: 2 of 3, the rest away", x.likeness(one, third), 666);
        due.is("18: none of 6", x.likeness(third, item(x, 0, 0, 6, 7, 8, 9)), 0);
        int empty = item(x, 0, 0);
        due.is("18: one is empty", x.likeness(one, empty), 0);
        due.is("18: both are empty", x.likeness(empty, item(x, 0, 0)), 0);
        due.is("18: empty and itself", x.likeness(empty, empty), 0);
        x.spell(3, 2);
        due.is("18: by meanings: 2 of 2", x.likeness(one, third), 1000);
        due.is("18: no such a", x.likeness(1, 0), BAD);
        due.is("18: no such b", x.likeness(0, 1), BAD);
        due.is("18: no item -1", x.likeness(-1, 0), BAD);
        due.is("18: no item 160", x.likeness(0, 160), BAD);
    }

    private static void near() {
        WorkCoder x = new WorkCoder();
        x.code(-1);
        x.code(0);
        x.code(-1);
        int item = item(x, 0, 9, 1, 2, 3, 4);
        due.is("19: none is coded", x.near(0, item), 0);
        int far = item(x, 0, 1, 1);
        int close = item(x, 0, 2, 1, 2, 3);
        int whole = item(x, 0, 3, 1, 2, 3, 4);
        x.day();
        due.is("19: in doubt is not coded", x.near(0, item), 0);
        x.settle(far, 0, 0);
        x.settle(close, 0, 0);
        x.settle(whole, 0, 1);
        due.is("19: the greatest", x.near(0, item), 750);
        due.is("19: just that code", x.near(1, item), 1000);
        due.is("19: no item has it", x.near(2, item), 0);
        due.is("19: itself counts for nothing", x.near(0, close), 333);
        due.is("19: and of the other one, too", x.near(0, far), 333);
        due.is("19: another code's items count", x.near(1, close), 750);
        x.exclude(0, 4, 1);
        due.is("19: excluded", x.near(0, item), 0);
        due.is("19: excluded above", x.near(1, item), 0);
        due.is("19: not for one without the word", x.near(1, close), 750);
        due.is("19: no such code", x.near(3, item), BAD);
        due.is("19: no code -1", x.near(-1, item), BAD);
        due.is("19: no such item", x.near(0, item + 1), BAD);
        due.is("19: no item -1", x.near(0, -1), BAD);
    }

    private static void liked() {
        WorkCoder x = withCodes(3);
        hand(x, 1, 1, 2, 3, 4);
        hand(x, 2, 1, 2, 5, 6);
        int item = item(x, 9, 9, 1, 2, 3);
        due.is("20: near 1", x.near(1, item), 750);
        due.is("20: near 2", x.near(2, item), 400);
        due.is("20: 350 more", x.liked(item), 1);
        x.gap(500, 350);
        due.is("20: 350 is enough", x.liked(item), 1);
        x.gap(500, 351);
        due.is("20: 351 is not there", x.liked(item), NOT);
        x.gap(750, 350);
        due.is("20: 750 is enough", x.liked(item), 1);
        x.gap(751, 350);
        due.is("20: 751 is not there", x.liked(item), NOT);
        x.gap(500, 1000);
        x.exclude(1, 1, 1);
        due.is("20: 400 is not 500", x.liked(item), NOT);
        x.gap(400, 400);
        due.is("20: never against an exclusion", x.liked(item), 2);
        x.exclude(2, 2, 1);
        x.gap(1, 0);
        due.is("20: all excluded", x.liked(item), NOT);
        due.is("20: no such item", x.liked(item + 1), BAD);
        due.is("20: no item -1", x.liked(-1), BAD);
        due.is("20: no item 160", x.liked(160), BAD);
    }

    private static void likedAtItsEdges() {
        WorkCoder x = withCodes(3);
        int one = hand(x, 2, 1);
        hand(x, 1, 2);
        int both = item(x, 9, 9, 1, 2);
        due.is("20: two of one near", x.liked(both), NOT);
        x.gap(500, 1);
        due.is("20: 1 more is not there", x.liked(both), NOT);
        x.gap(500, 0);
        due.is("20: the least of several", x.liked(both), 1);
        WorkCoder z = withCodes(2);
        hand(z, 0, 1, 2, 5, 6);
        hand(z, 1, 1, 2, 3, 4);
        int later = item(z, 9, 9, 1, 2, 3);
        z.gap(500, 350);
        due.is("20: 750 after 400 is 350 more", z.liked(later), 1);
        z.gap(500, 351);
        due.is("20: and not 351", z.liked(later), NOT);
        due.is("20: a coded one, itself counting for nothing", x.liked(one), NOT);
        x.gap(1, 0);
        due.is("20: a coded one among others", x.liked(one), NOT);
        due.is("20: an empty one", x.liked(item(x, 9, 9)), NOT);
        WorkCoder y = withCodes(1);
        hand(y, 0, 1, 2, 3, 4);
        int part = item(y, 9, 9, 1);
        y.gap(250, 250);
        due.is("20: one code alone", y.liked(part), 0);
        y.gap(250, 251);
        due.is("20: one code alone is held against 0", y.liked(part), NOT);
    }

    private static void day() {
        WorkCoder x = withCodes(3);
        int rule = item(x, 0, 0, 1);
        int clash = item(x, 0, 1, 2);
        int none = item(x, 0, 2, 3);
        int first = needing(x, 3, 2, 1);
        needing(x, 3, 2, 1);
        needing(x, 3, 0, 2);
        needing(x, 3, 1, 2);
        needing(x, 8, 1, 2);
        due.is("21: one by rules", x.day(), 1);
        due.is("21: coded", x.told(rule, 0), 1);
        due.is("21: with 2", x.told(rule, 1), 2);
        due.is("21: by a rule", x.told(rule, 2), 0);
        due.is("21: by the least", x.told(rule, 3), first);
        due.is("21: clash", x.told(clash, 0), 2);
        due.is("21: nothing", x.told(none, 0), 2);
        due.is("21: nothing more", x.day(), 0);
        int later = needing(x, 9, 0, 3);
        due.is("21: in doubt, then coded", x.day(), 1);
        due.is("21: by the later rule", x.told(none, 3), later);
        needing(x, 0, 1, 1);
        due.is("21: what is coded stays", x.day(), 0);
        due.is("21: what is coded stays so", x.told(rule, 1), 2);
        item(x, 0, 5, 3);
        due.is("21: a new one", x.day(), 1);
        int lesser = needing(x, 0, 1, 2);
        due.is("21: the rank that leads", x.day(), 1);
        due.is("21: its rule, not the least of all", x.told(clash, 3), lesser);
    }

    private static void dayGoesByItsBeginning() {
        WorkCoder x = withCodes(1);
        int rule = needing(x, 0, 0, 1);
        x.with(rule, 2, 2);
        int one = item(x, 0, 0, 1);
        int two = item(x, 0, 0, 1, 2);
        int three = item(x, 0, 0, 1, 2, 3, 4);
        due.is("21: likeness sees the beginning: one", x.day(), 1);
        due.is("21: two is in doubt", x.told(two, 0), 2);
        due.is("21: then two", x.day(), 1);
        due.is("21: by likeness to one", x.told(two, 3), one);
        due.is("21: three is in doubt", x.told(three, 0), 2);
        due.is("21: then three", x.day(), 1);
        due.is("21: by likeness to two", x.told(three, 3), two);
        WorkCoder y = withCodes(1);
        int late = item(y, 0, 0, 1, 2);
        int early = item(y, 0, 0, 1);
        y.with(needing(y, 0, 0, 1), 2, 2);
        due.is("21: whichever is the lesser", y.day(), 1);
        due.is("21: the lesser is in doubt", y.told(late, 0), 2);
        y.day();
        due.is("21: by the greater one", y.told(late, 3), early);
    }

    private static void dayByLikeness() {
        WorkCoder x = withCodes(3);
        int far = item(x, 0, 1, 1, 5, 6, 7);
        int least = item(x, 0, 2, 1, 2, 3);
        int like = item(x, 0, 3, 1, 2, 4);
        x.day();
        x.settle(far, 0, 1);
        x.settle(like, 0, 1);
        x.settle(least, 0, 1);
        hand(x, 0, 9);
        int item = item(x, 5, 5, 1, 2);
        due.is("21: by likeness", x.day(), 1);
        due.is("21: coded", x.told(item, 0), 1);
        due.is("21: with 1", x.told(item, 1), 1);
        due.is("21: by an item", x.told(item, 2), 1);
        due.is("21: by the least with that likeness", x.told(item, 3), least);
        int clash = item(x, 5, 6, 1, 2);
        needing(x, 0, 0, 2);
        needing(x, 0, 2, 2);
        due.is("21: a clash goes before likeness", x.day(), 0);
        due.is("21: clash is doubt", x.told(clash, 0), 2);
        due.is("21: though likeness would have it", x.liked(clash), 1);
        int ruled = item(x, 5, 7, 1);
        needing(x, 9, 2, 1);
        x.day();
        due.is("21: a rule goes before likeness", x.told(ruled, 1), 2);
    }

    private static void first() {
        WorkCoder x = withCodes(1);
        item(x, 0, 0, 1);
        due.is("22: new ones are no doubts", x.first(), NOT);
        x.day();
        due.is("22: the one", x.first(), 0);
        item(x, 1, 0, 1);
        int most = item(x, 2, 0, 1);
        item(x, 2, 0, 1);
        due.is("22: new ones do not count", x.first(), 0);
        x.day();
        due.is("22: the most", x.first(), most);
        item(x, 0, 0, 1);
        x.day();
        due.is("22: of several the least", x.first(), 0);
        x.settle(0, 3, 0);
        due.is("22: settled ones are gone", x.first(), most);
        WorkCoder y = withCodes(1);
        hand(y, 0, 5);
        item(y, 0, 0, 6);
        item(y, 0, 0, 7);
        item(y, 0, 0, 7);
        y.day();
        due.is("22: coded ones aside", y.first(), 4);
        y.spell(7, 8);
        y.spell(6, 8);
        due.is("22: by what words stand for now", y.first(), 2);
    }

    private static void settle() {
        WorkCoder x = withCodes(2);
        x.answer(1, 3, 4);
        item(x, 3, 4);
        item(x, 3, 5);
        due.is("23: new", x.settle(0, 0, 0), NOT);
        x.day();
        item(x, 3, 4);
        due.is("23: no such item", x.settle(7, 0, 0), BAD);
        due.is("23: no item -1", x.settle(-1, 0, 0), BAD);
        due.is("23: coder 10", x.settle(0, 10, 0), BAD);
        due.is("23: coder -1", x.settle(0, -1, 0), BAD);
        due.is("23: no such code", x.settle(0, 0, 2), BAD);
        due.is("23: no code -1", x.settle(0, 0, -1), BAD);
        due.is("23: BAD settled nothing", x.count(6), 4);
        due.is("23: it and all in doubt alike", x.settle(1, 9, 1), 3);
        for (int item = 0; item <= 2; item++) {
            due.is("23: code", x.told(item, 1), 1);
            due.is("23: by a hand", x.told(item, 2), 2);
            due.is("23: by this hand", x.told(item, 3), 9);
        }
        due.is("23: another schooling", x.told(4, 0), 2);
        due.is("23: the new one stays", x.told(6, 0), 0);
        due.is("23: coded", x.settle(1, 9, 1), NOT);
        due.is("23: BAD goes before NOT", x.settle(1, 10, 1), BAD);
        due.is("23: the other one", x.settle(4, 0, 0), 1);
    }

    private static void recode() {
        WorkCoder x = withCodes(3);
        int a = item(x, 0, 0, 1);
        int b = item(x, 0, 0, 2);
        int c = item(x, 0, 0, 1, 7);
        int r1 = needing(x, 5, 0, 1);
        x.with(r1, 7, 2);
        int r2 = needing(x, 5, 0, 2);
        due.is("24: two by rules", x.day(), 2);
        x.gap(500, 0);
        due.is("24: one by likeness", x.day(), 1);
        due.is("24: by an item", x.told(c, 2), 1);
        due.is("24: none is stale", x.recode(), 0);
        int r3 = needing(x, 5, 0, 1);
        x.drop(r1);
        due.is("24: the same code by another rule is not stale", x.told(a, 5), 0);
        due.is("24: so nothing", x.recode(), 0);
        due.is("24: and the rule is still named", x.told(a, 3), r1);
        x.second(a, 1, 2);
        x.drop(r3);
        due.is("24: nothing now", x.told(a, 5), 1);
        int r4 = needing(x, 5, 1, 2);
        due.is("24: clash", x.told(b, 5), 1);
        due.is("24: two stale", x.count(8), 2);
        x.drop(r2);
        due.is("24: another code", x.told(b, 5), 1);
        due.is("24: by likeness is never stale", x.told(c, 5), 0);
        due.is("24: recoded", x.recode(), 2);
        due.is("24: new", x.told(a, 0), 0);
        due.is("24: no code", x.told(a, 1), -1);
        due.is("24: by nothing", x.told(a, 2), -1);
        due.is("24: by none", x.told(a, 3), -1);
        due.is("24: the second is gone", x.told(a, 4), -1);
        due.is("24: not stale", x.told(a, 5), 0);
        due.is("24: coded by likeness to what is new", x.told(c, 1), 0);
        due.is("24: none is left", x.recode(), 0);
        due.is("24: rules code the one, likeness the other", x.day(), 2);
        due.is("24: by the new rule", x.told(b, 3), r4);
        due.is("24: by an item", x.told(a, 3), c);
        due.is("24: no second comes back", x.told(a, 4), -1);
        x.spell(2, 3);
        due.is("24: stale by spelling", x.recode(), 1);
        recodedToDoubt();
    }

    /** What an item had before it became new again must not come back with the next day. */
    private static void recodedToDoubt() {
        WorkCoder x = withCodes(2);
        int clash = item(x, 0, 0, 1);
        int none = item(x, 0, 0, 2);
        needing(x, 0, 0, 1);
        int rule = needing(x, 0, 0, 2);
        x.day();
        needing(x, 0, 1, 1);
        x.drop(rule);
        due.is("24: both are stale", x.recode(), 2);
        due.is("24: and in doubt", x.day(), 0);
        due.is("24: by clash", x.told(clash, 0), 2);
        due.is("24: by nothing", x.told(none, 0), 2);
    }

    private static void second() {
        WorkCoder x = withCodes(3);
        int ruled = item(x, 0, 0, 1);
        int hand = item(x, 0, 0, 2);
        needing(x, 0, 0, 1);
        due.is("25: new", x.second(ruled, 0, 0), NOT);
        x.day();
        due.is("25: in doubt", x.second(hand, 0, 0), NOT);
        x.settle(hand, 4, 1);
        due.is("25: by its own hand", x.second(hand, 4, 1), NOT);
        due.is("25: by another", x.second(hand, 5, 2), 1);
        due.is("25: its code", x.told(hand, 4), 2);
        due.is("25: one that is not changed", x.told(hand, 1), 1);
        due.is("25: a later one in its place", x.second(hand, 6, 1), 1);
        due.is("25: its code", x.told(hand, 4), 1);
        due.is("25: one each", x.agree(0), 1);
        due.is("25: its own hand still not", x.second(hand, 4, 0), NOT);
        due.is("25: NOT changed nothing", x.told(hand, 4), 1);
        due.is("25: by rule 0, and coder 0", x.second(ruled, 0, 0), 1);
        due.is("25: coder 10", x.second(ruled, 10, 1), BAD);
        due.is("25: coder -1", x.second(ruled, -1, 1), BAD);
        due.is("25: no such code", x.second(ruled, 0, 3), BAD);
        due.is("25: no code -1", x.second(ruled, 0, -1), BAD);
        due.is("25: no such item", x.second(1, 0, 0), BAD);
        due.is("25: no item -1", x.second(-1, 0, 0), BAD);
        due.is("25: BAD goes before NOT", x.second(hand, 4, 3), BAD);
        due.is("25: BAD changed nothing", x.told(ruled, 4), 0);
        int liked = item(x, 0, 9, 2, 3);
        x.day();
        due.is("25: by an item", x.told(liked, 2), 1);
        due.is("25: an item's number is no coder's", x.second(liked, hand, 0), 1);
    }

    private static void told() {
        WorkCoder x = withCodes(2);
        int item = item(x, 0, 0, 1);
        int[] fresh = {0, -1, -1, -1, -1, 0};
        int[] doubt = {2, -1, -1, -1, -1, 0};
        int[] hand = {1, 1, 2, 7, -1, 0};
        int[] seconded = {1, 1, 2, 7, 0, 0};
        allTold(x, item, "new", fresh);
        x.day();
        allTold(x, item, "in doubt", doubt);
        x.settle(item, 7, 1);
        allTold(x, item, "by a hand", hand);
        x.second(item, 8, 0);
        allTold(x, item, "with a second", seconded);
        int rule = needing(x, 0, 0, 1);
        allTold(x, item, "by a hand, and ruled otherwise", seconded);
        int next = item(x, 1, 1, 1);
        x.day();
        allTold(x, next, "by a rule", new int[] {1, 0, 0, rule, -1, 0});
        x.drop(rule);
        allTold(x, next, "stale", new int[] {1, 0, 0, rule, -1, 1});
        due.is("26: what 6", x.told(item, 6), BAD);
        due.is("26: what -1", x.told(item, -1), BAD);
        due.is("26: no such item", x.told(1, 0), BAD);
        due.is("26: no item -1", x.told(-1, 0), BAD);
        due.is("26: no item 160", x.told(160, 5), BAD);
    }

    private static void allTold(WorkCoder x, int item, String when, int[] want) {
        for (int what = 0; what < want.length; what++) {
            due.is("26: told " + what + ", " + when, x.told(item, what), want[what]);
        }
    }

    private static void coded() {
        WorkCoder x = new WorkCoder();
        x.code(-1);
        x.code(0);
        x.code(1);
        x.code(0);
        x.code(-1);
        due.is("27: none", x.coded(0), 0);
        hand(x, 0, 1);
        hand(x, 2, 11);
        hand(x, 2, 21);
        hand(x, 3, 31);
        hand(x, 4, 41);
        int[] want = {4, 2, 2, 1, 1};
        for (int code = 0; code < want.length; code++) {
            due.is("27: coded(" + code + ")", x.coded(code), want[code]);
        }
        due.is("27: no such code", x.coded(5), BAD);
        due.is("27: no code -1", x.coded(-1), BAD);
        due.is("27: least int", x.coded(MIN), BAD);
        item(x, 0, 0, 50);
        x.day();
        due.is("27: doubts are not coded", x.coded(0), 4);
    }

    private static void total() {
        WorkCoder x = withCodes(4);
        x.other(-1);
        x.other(0);
        x.other(1);
        x.other(0);
        x.other(-1);
        x.carry(0, 2, 1);
        x.carry(1, 2, 1);
        x.carry(1, 3, 1);
        x.carry(2, 0, 1);
        x.carry(2, 4, 1);
        hand(x, 0, 1);
        hand(x, 1, 11);
        hand(x, 1, 21);
        hand(x, 2, 31);
        hand(x, 3, 41);
        int[] least = {3, 1, 1, 0, 0};
        int[] greatest = {4, 3, 3, 2, 1};
        for (int other = 0; other < 5; other++) {
            due.is("28: least " + other, x.total(other, 0), least[other]);
            due.is("28: greatest " + other, x.total(other, 1), greatest[other]);
        }
        due.is("28: no such other code", x.total(5, 0), BAD);
        due.is("28: no other code -1", x.total(-1, 1), BAD);
        due.is("28: what 2", x.total(0, 2), BAD);
        due.is("28: what -1", x.total(0, -1), BAD);
        x.carry(2, 4, 0);
        due.is("28: carried no more", x.total(4, 1), 0);
        due.is("28: and now to none but below", x.total(0, 0), 4);
        WorkCoder y = new WorkCoder();
        y.code(-1);
        y.code(0);
        y.other(-1);
        y.carry(0, 0, 1);
        hand(y, 1, 1);
        due.is("28: what is above does not carry for it", y.total(0, 1), 0);
    }

    private static void agree() {
        WorkCoder x = withCodes(4);
        int[] codes = {0, 0, 1, 1, 2, 3};
        int[] seconds = {0, 1, 1, 1, 0};
        int[] items = new int[codes.length];
        for (int i = 0; i < codes.length; i++) {
            items[i] = hand(x, codes[i], 10 * i);
        }
        due.is("29: n of none", x.agree(0), 0);
        for (int i = 0; i < seconds.length; i++) {
            x.second(items[i], 1, seconds[i]);
        }
        // e: code 0 has 2 items and 2 seconds, code 1 has 2 and 3, code 2 has 1 and 0.
        due.is("29: n", x.agree(0), 5);
        due.is("29: a", x.agree(1), 3);
        due.is("29: n a - e", x.agree(2), 5);
        due.is("29: n n - e", x.agree(3), 15);
        due.is("29: least", x.agree(4), 3);
        due.is("29: greatest", x.agree(5), 4);
        due.is("29: what 6", x.agree(6), -1000000000L);
        due.is("29: what -1", x.agree(-1), -1000000000L);
        x.second(items[1], 2, 0);
        due.is("29: a later second", x.agree(1), 4);
        due.is("29: n is as it was", x.agree(0), 5);
        // e: code 0 has 2 and 3, code 1 has 2 and 2.
        due.is("29: n a - e then", x.agree(2), 10);
        WorkCoder y = withCodes(2);
        int one = hand(y, 0, 1);
        y.second(one, 1, 1);
        int two = hand(y, 1, 31);
        y.second(two, 1, 0);
        due.is("29: less than by chance", y.agree(2), -2);
    }

    private static void agreeBounds() {
        WorkCoder x = withCodes(1);
        int one = hand(x, 0, 1);
        hand(x, 0, 11);
        due.is("29: with one code none could differ", x.agree(4), 2);
        due.is("29: greatest", x.agree(5), 2);
        x.second(one, 1, 0);
        due.is("29: one of two has a second", x.agree(4), 2);
        x.code(-1);
        due.is("29: with two codes the other could", x.agree(4), 1);
        due.is("29: greatest as before", x.agree(5), 2);
        x.second(one, 1, 1);
        due.is("29: one differs", x.agree(4), 0);
        due.is("29: and the other might agree", x.agree(5), 1);
        item(x, 0, 0, 40);
        x.day();
        due.is("29: doubts do not count", x.agree(5), 1);
    }

    private static void count() {
        WorkCoder x = withCodes(2);
        x.other(-1);
        x.answer(1, 0, 0);
        item(x, 0, 0, 1);
        item(x, 0, 0, 2);
        item(x, 0, 1, 2);
        int rule = needing(x, 0, 0, 1);
        needing(x, 0, 1, 2);
        int dropped = needing(x, 5, 1, 3);
        x.drop(dropped);
        x.day();
        x.with(rule, 9, 1);
        item(x, 0, 0, 5);
        int[] want = {2, 5, 6, 3, 1, 3, 2, 1, 1, 1};
        for (int what = 0; what < want.length; what++) {
            due.is("30: count(" + what + ")", x.count(what), want[what]);
        }
        due.is("30: what 10", x.count(10), BAD);
        due.is("30: what -1", x.count(-1), BAD);
        due.is("30: least int", x.count(MIN), BAD);
    }
}
