/** For each sentence under the document's 'Terms' that names a boundary: a test of its own, on both sides of it. */
public final class EdgeTest extends Making {
    public static void main(String[] args) {
        wordsAre0To59();
        eachWordStandsForItselfAtFirst();
        oneStandsForItselfHereWhateverItStandsFor();
        codesAre0To39();
        eachUnderALesserOneOrAtTheTop();
        eachMayExcludeWords();
        belowACode();
        answersAre0To79();
        aSortATradeAndASchooling();
        itemIsPartOfAnswer();
        aPartHasWordsAtFirstNone();
        setIsWhatTheseStandFor();
        newAtFirst();
        alike();
        rulesAre0To39();
        ranksAre0To9();
        tradesAreASet();
        wordsNeededAndBarred();
        aRuleMayBeDropped();
        byRules();
        quarrelOfNoneOneAndAll();
        quarrelByRankCodeAndTrade();
        likenessAtItsEdges();
        nearAtItsEdges();
        leastAtItsEdges();
        gapAtItsEdges();
        leastAndGapAtFirst();
        byTheLeastItem();
        dayOfNoneOneAndAll();
        dayByLikenessOfAll();
        firstOfNoneOneAndAll();
        settleOfOneAndAll();
        staleOfNoneOneAndAll();
        reachOfNoneOneAndAll();
        secondAtItsEdges();
        secondGoes();
        agreementOfNoneAndOne();
        agreementOfAll();
        agreementLeastAndGreatest();
        othersAre0To29();
        carriesToASet();
        totalOfNoneAndAll();
        ofSeveralTheOneNamedFirst();
        allMemoryIsItsOwn();
        the512thCall();
        due.end("EdgeTest");
    }

    // ---- words and codes

    private static void wordsAre0To59() {
        WorkCoder x = withCodes(1);
        x.rule(0, 0, ALL_TRADES);
        x.answer(0, 0, 0);
        for (int word : new int[] {MIN, -64, -1, 60, 63, 64, MAX}) {
            due.is("exclude of word " + word, x.exclude(0, word, 1), BAD);
            due.is("spell of word " + word, x.spell(word, 0), BAD);
            due.is("spell for word " + word, x.spell(0, word), BAD);
            due.is("spell of it for itself: " + word, x.spell(word, word), BAD);
            due.is("put of word " + word, x.put(0, word), BAD);
            due.is("with word " + word, x.with(0, word, 1), BAD);
        }
        due.is("exclude of word 0", x.exclude(0, 0, 1), 0);
        due.is("exclude of word 59", x.exclude(0, 59, 1), 0);
        due.is("spell of word 0 for 59", x.spell(0, 59), 0);
        due.is("spell of word 59 for 0", x.spell(59, 0), 59);
        due.is("put of word 0", x.put(0, 0), 1);
        due.is("put of word 59", x.put(0, 59), 2);
        due.is("with word 0", x.with(0, 0, 1), 0);
        due.is("with word 59", x.with(0, 59, 1), 0);
        due.is("0 and 59 in each other's place are both in the set", x.holds(0, 0), 1);
        for (int word = 0; word < 60; word++) {
            int edge = word == 0 || word == 59 ? 1 : 0;
            due.is("just these are excluded: " + word, x.exclude(0, word, 0), edge);
            due.is("just these are needed: " + word, x.with(0, word, 0), edge);
        }
    }

    private static void eachWordStandsForItselfAtFirst() {
        WorkCoder x = new WorkCoder();
        for (int word = 0; word < 60; word++) {
            due.is("at first " + word + " stands for itself", x.spell(word, 59 - word), word);
        }
        for (int word = 0; word < 60; word++) {
            due.is("then " + word + " for another", x.spell(word, word), 59 - word);
        }
        for (int word = 0; word < 60; word++) {
            due.is("then " + word + " as at first", x.spell(word, word), word);
        }
    }

    private static void oneStandsForItselfHereWhateverItStandsFor() {
        WorkCoder x = withCodes(1);
        int last = item(x, 0, 0, 59);
        int next = item(x, 0, 0, 58);
        for (int word = 0; word < 60; word++) {
            x.spell(word, (word + 1) % 60);
        }
        due.is("a ring of words ends: 59 is one word", x.set(last, 0), 1);
        due.is("59 stands for 0, not for what 0 stands for", x.holds(needing(x, 0, 0, 0), last), 1);
        due.is("58 stands for 59, not for what 59 stands for", x.holds(needing(x, 0, 0, 59), next), 1);
        due.is("the two stand for two", x.likeness(last, next), 0);
        WorkCoder y = new WorkCoder();
        int one = item(y, 0, 0, 1);
        int two = item(y, 0, 0, 2);
        y.spell(1, 2);
        due.is("1 stands for 2, which stands for itself", y.likeness(one, two), 1000);
        y.spell(2, 1);
        due.is("each stands for the other one", y.likeness(one, two), 0);
        y.spell(1, 1);
        due.is("1 stands for itself, 2 for 1", y.likeness(one, two), 1000);
    }

    private static void codesAre0To39() {
        WorkCoder x = new WorkCoder();
        due.is("no code at first", x.coded(0), BAD);
        for (int code = 0; code < 40; code++) {
            due.is("the next code", x.code(-1), code);
            due.is("it is one", x.coded(code), 0);
            due.is("the one after it is not", x.coded(code + 1), BAD);
            due.is("so many", x.count(0), code + 1);
        }
        due.is("the 41st at the top", x.code(-1), FULL);
        due.is("the 41st under the first", x.code(0), FULL);
        due.is("the 41st under the last", x.code(39), FULL);
        due.is("no code 40", x.coded(40), BAD);
        due.is("40 of them", x.count(0), 40);
        due.is("the last may be a rule's", x.rule(0, 39, 0), 0);
        due.is("40 may not", x.rule(0, 40, 0), BAD);
        due.is("the last may exclude", x.exclude(39, 59, 1), 0);
        due.is("40 may not", x.exclude(40, 59, 1), BAD);
        x.answer(1, 0, 0);
        x.day();
        due.is("none may be a hand's but those", x.settle(0, 0, 40), BAD);
        due.is("the last may", x.settle(0, 0, 39), 2);
        due.is("none may be a second's but those", x.second(0, 1, 40), BAD);
        due.is("the last may", x.second(0, 1, 39), 1);
        due.is("the last has its two", x.coded(39), 2);
        due.is("near of the last", x.near(39, 0), 0);
        due.is("near of 40", x.near(40, 0), BAD);
    }

    private static void eachUnderALesserOneOrAtTheTop() {
        WorkCoder x = new WorkCoder();
        for (int code = 0; code < 40; code++) {
            due.is("under -2", x.code(-2), BAD);
            due.is("under itself", x.code(code), BAD);
            due.is("under a greater one", x.code(code + 1), BAD);
            due.is("under the greatest number", x.code(MAX), BAD);
            due.is("under the least number", x.code(MIN), BAD);
            due.is("under the one before it, or at the top", x.code(code - 1), code);
        }
        due.is("full, and under one that is not", x.code(40), BAD);
        due.is("full, and under -2", x.code(-2), BAD);
    }

    private static void eachMayExcludeWords() {
        WorkCoder x = withCodes(40);
        hand(x, 39, words(0, 59));
        int none = item(x, 9, 9);
        int first = item(x, 9, 9, 0);
        int last = item(x, 9, 9, 59);
        due.is("none excluded", x.near(39, last), 16);
        x.exclude(39, 59, 1);
        due.is("the last word excluded", x.near(39, last), 0);
        due.is("not the first", x.near(39, first), 16);
        for (int word = 0; word < 59; word++) {
            due.is("one after the other", x.exclude(39, word, 1), 0);
        }
        due.is("all excluded", x.near(39, first), 0);
        due.is("all excluded, and no words", x.near(39, none), 0);
        due.is("the first no more", x.exclude(39, 0, 0), 1);
        due.is("open for the first", x.near(39, first), 16);
        due.is("shut for the last", x.near(39, last), 0);
    }

    private static void belowACode() {
        WorkCoder chain = new WorkCoder();
        for (int i = 0; i < 40; i++) {
            chain.code(i - 1);
        }
        hand(chain, 20, 1);
        for (int code = 0; code < 40; code++) {
            due.is("in a chain: below " + code, chain.coded(code), code <= 20 ? 1 : 0);
        }
        hand(chain, 39, 2);
        due.is("the whole way up", chain.coded(0), 2);
        due.is("the end of the chain", chain.coded(39), 1);
        chain.exclude(0, 5, 1);
        int item = item(chain, 9, 9, 2, 5);
        due.is("shut from the very top", chain.near(39, item), 0);
        WorkCoder fan = new WorkCoder();
        for (int i = 0; i < 40; i++) {
            fan.code(i == 0 ? -1 : 0);
        }
        hand(fan, 39, 1);
        hand(fan, 0, 2);
        due.is("below the top", fan.coded(0), 2);
        due.is("beside it", fan.coded(38), 0);
        due.is("what is above is not below", fan.coded(39), 1);
    }

    // ---- answers and items

    private static void answersAre0To79() {
        WorkCoder x = new WorkCoder();
        due.is("no answers", x.count(1), 0);
        due.is("no items", x.count(2), 0);
        for (int answer = 0; answer < 80; answer++) {
            due.is("the next answer", x.answer(0, 0, 0), answer);
            due.is("its item is", x.told(2 * answer, 0), 0);
            due.is("it has no part 1", x.told(2 * answer + 1, 0), BAD);
            due.is("the next one's is not", x.told(2 * answer + 2, 0), BAD);
        }
        due.is("the 81st", x.answer(0, 0, 0), FULL);
        due.is("the 81st of two parts", x.answer(1, 9, 9), FULL);
        due.is("80 answers", x.count(1), 80);
        due.is("80 items", x.count(2), 80);
        WorkCoder y = new WorkCoder();
        pairsOfParts(y, 80);
        due.is("the 81st after 160 items", y.answer(0, 0, 0), FULL);
        due.is("160 items", y.count(2), 160);
    }

    private static void aSortATradeAndASchooling() {
        WorkCoder x = withCodes(1);
        for (int wrong : new int[] {MIN, -1, MAX}) {
            due.is("sort " + wrong, x.answer(wrong, 0, 0), BAD);
            due.is("trade " + wrong, x.answer(0, wrong, 0), BAD);
            due.is("schooling " + wrong, x.answer(0, 0, wrong), BAD);
        }
        due.is("sort 2", x.answer(2, 0, 0), BAD);
        due.is("trade 10", x.answer(0, 10, 0), BAD);
        due.is("schooling 10", x.answer(0, 0, 10), BAD);
        due.is("the least", x.answer(0, 0, 0), 0);
        due.is("the greatest", x.answer(1, 9, 9), 1);
        due.is("the greatest trade alone", x.answer(0, 9, 0), 2);
        due.is("the greatest schooling alone", x.answer(0, 0, 9), 3);
        due.is("trade 0 is the rule's", x.holds(x.rule(0, 0, 1), 0), 1);
        due.is("trade 9 is not", x.holds(0, 4), 0);
        due.is("trade 9 is another's", x.holds(x.rule(0, 0, 512), 4), 1);
        due.is("both parts have the trade", x.holds(1, 3), 1);
        due.is("schooling 9 is not 0", x.set(6, 1), 1);
        due.is("both parts have trade and schooling", x.set(2, 1), 2);
    }

    private static void itemIsPartOfAnswer() {
        WorkCoder x = withCodes(1);
        x.rule(0, 0, ALL_TRADES);
        x.answer(0, 0, 0);
        x.answer(1, 0, 0);
        for (int i = 2; i < 79; i++) {
            x.answer(1, 0, 0);
        }
        x.answer(0, 0, 0);
        for (int wrong : new int[] {MIN, -2, -1, 1, 159, 160, 161, MAX}) {
            notAnItem(x, wrong);
        }
        for (int right : new int[] {0, 2, 3, 4, 157, 158}) {
            anItem(x, right);
        }
        due.is("80 answers with 158 items", x.count(2), 158);
        WorkCoder y = withCodes(1);
        y.rule(0, 0, ALL_TRADES);
        pairsOfParts(y, 80);
        notAnItem(y, 160);
        anItem(y, 159);
        anItem(y, 1);
    }

    private static void notAnItem(WorkCoder x, int item) {
        String is = " of what is no item: " + item;
        due.is("put" + is, x.put(item, 0), BAD);
        due.is("set 0" + is, x.set(item, 0), BAD);
        due.is("set 1" + is, x.set(item, 1), BAD);
        due.is("holds" + is, x.holds(0, item), BAD);
        due.is("ruled" + is, x.ruled(item), BAD);
        due.is("likeness" + is, x.likeness(item, 0), BAD);
        due.is("likeness to" + is, x.likeness(0, item), BAD);
        due.is("near" + is, x.near(0, item), BAD);
        due.is("liked" + is, x.liked(item), BAD);
        due.is("settle" + is, x.settle(item, 0, 0), BAD);
        due.is("second" + is, x.second(item, 0, 0), BAD);
        due.is("told" + is, x.told(item, 0), BAD);
        due.is("told 5" + is, x.told(item, 5), BAD);
    }

    private static void anItem(WorkCoder x, int item) {
        String is = " of item " + item;
        due.is("put" + is, x.put(item, 59), 1);
        due.is("set 0" + is, x.set(item, 0), 1);
        due.is("holds" + is, x.holds(0, item), 1);
        due.is("ruled" + is, x.ruled(item), 0);
        due.is("likeness" + is, x.likeness(item, item), 1000);
        due.is("near" + is, x.near(0, item), 0);
        due.is("liked" + is, x.liked(item), NOT);
        due.is("settle" + is, x.settle(item, 0, 0), NOT);
        due.is("second" + is, x.second(item, 0, 0), NOT);
        due.is("told" + is, x.told(item, 0), 0);
        due.is("told 5" + is, x.told(item, 5), 0);
    }

    private static void aPartHasWordsAtFirstNone() {
        WorkCoder x = new WorkCoder();
        x.answer(1, 0, 0);
        due.is("none at first", x.set(0, 0), 0);
        due.is("none in the other part", x.set(1, 0), 0);
        for (int word = 0; word < 60; word++) {
            due.is("one more", x.put(0, word), word + 1);
            due.is("a set has it once", x.put(0, word), NOT);
            due.is("so many in the set", x.set(0, 0), word + 1);
        }
        for (int word = 0; word < 60; word++) {
            due.is("the full part has it", x.put(0, word), NOT);
        }
        due.is("the 61st word is none", x.put(0, 60), BAD);
        due.is("still none in the other part", x.set(1, 0), 0);
        due.is("60 words", x.set(0, 0), 60);
    }

    private static void setIsWhatTheseStandFor() {
        WorkCoder x = withCodes(1);
        int all = item(x, 0, 0, words(0, 59));
        int none = item(x, 0, 0);
        for (int word = 0; word < 60; word++) {
            due.is("so many meanings", x.set(all, 0), 60 - word);
            x.spell(word, 59);
        }
        due.is("all stand for the last", x.set(all, 0), 1);
        due.is("which is needed", x.holds(needing(x, 0, 0, 59), all), 1);
        due.is("none stand for none", x.set(none, 0), 0);
        due.is("all for one are alike to that one", x.likeness(all, item(x, 0, 0, 7)), 1000);
        for (int word = 0; word < 59; word++) {
            x.spell(word, word);
        }
        due.is("and back", x.set(all, 0), 60);
    }

    private static void newAtFirst() {
        WorkCoder x = new WorkCoder();
        pairsOfParts(x, 80);
        due.is("all are new", x.count(4), 160);
        due.is("none is coded", x.count(5), 0);
        due.is("none is in doubt", x.count(6), 0);
        for (int item : new int[] {0, 1, 158, 159}) {
            due.is("state", x.told(item, 0), 0);
            due.is("code", x.told(item, 1), -1);
            due.is("by what", x.told(item, 2), -1);
            due.is("the number of that", x.told(item, 3), -1);
            due.is("second", x.told(item, 4), -1);
            due.is("stale", x.told(item, 5), 0);
        }
    }

    private static void alike() {
        WorkCoder x = new WorkCoder();
        pairsOfParts(x, 79);
        x.answer(0, 0, 0);
        due.is("all without words", x.set(0, 1), 159);
        due.is("the last one's", x.set(158, 1), 159);
        x.put(158, 59);
        due.is("one word sets it apart", x.set(158, 1), 1);
        due.is("from all others", x.set(0, 1), 158);
        x.put(0, 59);
        due.is("the same word", x.set(158, 1), 2);
        x.put(1, 58);
        due.is("another word", x.set(1, 1), 1);
        x.spell(58, 59);
        due.is("that stands for it", x.set(1, 1), 3);
        WorkCoder y = new WorkCoder();
        int one = item(y, 0, 9, 1);
        item(y, 9, 0, 1);
        item(y, 9, 9, 1);
        item(y, 0, 0, 1);
        due.is("trade and schooling the other way round", y.set(one, 1), 1);
    }

    // ---- rules

    private static void rulesAre0To39() {
        WorkCoder x = withCodes(1);
        x.answer(0, 0, 0);
        notARule(x, 0);
        for (int rule = 0; rule < 40; rule++) {
            due.is("the next rule", x.rule(0, 0, 1), rule);
            due.is("it holds", x.holds(rule, 0), 1);
            due.is("the one after it is none", x.holds(rule + 1, 0), BAD);
        }
        due.is("the 41st", x.rule(0, 0, 1), FULL);
        for (int wrong : new int[] {MIN, -1, 40, MAX}) {
            notARule(x, wrong);
        }
        due.is("40 of them", x.count(3), 40);
        due.is("with the last", x.with(39, 59, 2), 0);
        due.is("reach of the last", x.reach(39), 0);
        due.is("drop the last", x.drop(39), 1);
        due.is("a dropped one still has its place", x.rule(0, 0, 1), FULL);
        due.is("and is counted", x.count(3), 40);
    }

    private static void notARule(WorkCoder x, int rule) {
        due.is("with " + rule, x.with(rule, 0, 0), BAD);
        due.is("drop " + rule, x.drop(rule), BAD);
        due.is("holds " + rule, x.holds(rule, 0), BAD);
        due.is("reach " + rule, x.reach(rule), BAD);
    }

    private static void ranksAre0To9() {
        WorkCoder x = withCodes(11);
        int item = item(x, 0, 0, 1);
        for (int wrong : new int[] {MIN, -1, 10, MAX}) {
            due.is("rank " + wrong, x.rule(wrong, 0, 1), BAD);
        }
        due.is("no rule yet", x.ruled(item), NOT);
        for (int rank = 9; rank >= 0; rank--) {
            x.rule(rank, rank, 1);
            due.is("rank " + rank + " is the least", x.ruled(item), rank);
        }
        x.rule(9, 10, 1);
        due.is("a clash of the last rank is not seen", x.ruled(item), 0);
        x.rule(0, 10, 1);
        due.is("one of the first rank is", x.ruled(item), CLASH);
    }

    private static void tradesAreASet() {
        WorkCoder x = withCodes(1);
        for (int wrong : new int[] {MIN, -1, 1024, 1025, 2047, MAX}) {
            due.is("trades " + wrong, x.rule(0, 0, wrong), BAD);
        }
        for (int trade = 0; trade < 10; trade++) {
            item(x, trade, 0);
        }
        int none = x.rule(0, 0, 0);
        int all = x.rule(0, 0, 1023);
        for (int trade = 0; trade < 10; trade++) {
            int one = x.rule(0, 0, 1 << trade);
            int others = x.rule(0, 0, 1023 - (1 << trade));
            due.is("the empty set", x.holds(none, 2 * trade), 0);
            due.is("the whole set", x.holds(all, 2 * trade), 1);
            for (int that = 0; that < 10; that++) {
                due.is(trade + " alone, and " + that, x.holds(one, 2 * that), that == trade ? 1 : 0);
                due.is("all but " + trade + ", and " + that, x.holds(others, 2 * that), that == trade ? 0 : 1);
            }
        }
    }

    private static void wordsNeededAndBarred() {
        WorkCoder x = withCodes(1);
        int none = item(x, 0, 0);
        int some = item(x, 0, 0, words(0, 58));
        int all = item(x, 0, 0, words(0, 59));
        int rule = x.rule(0, 0, 1);
        holdsFor(x, rule, "without words", none, 1, some, 1, all, 1);
        due.is("how -1", x.with(rule, 59, -1), BAD);
        due.is("how 3", x.with(rule, 59, 3), BAD);
        due.is("how 0", x.with(rule, 59, 0), 0);
        x.with(rule, 59, 2);
        holdsFor(x, rule, "the last barred", none, 1, some, 1, all, 0);
        due.is("one is not both", x.with(rule, 59, 1), 2);
        holdsFor(x, rule, "the last needed", none, 0, some, 0, all, 1);
        for (int word = 0; word < 59; word++) {
            x.with(rule, word, 1);
        }
        holdsFor(x, rule, "all needed", none, 0, some, 0, all, 1);
        x.with(rule, 59, 0);
        holdsFor(x, rule, "all needed but the last", none, 0, some, 1, all, 1);
        for (int word = 0; word < 60; word++) {
            due.is("what it was", x.with(rule, word, 2), word == 59 ? 0 : 1);
        }
        holdsFor(x, rule, "all barred", none, 1, some, 0, all, 0);
    }

    private static void holdsFor(WorkCoder x, int rule, String when, int... itemsAndAnswers) {
        for (int i = 0; i < itemsAndAnswers.length; i += 2) {
            due.is(when + ": item " + itemsAndAnswers[i], x.holds(rule, itemsAndAnswers[i]), itemsAndAnswers[i + 1]);
        }
    }

    private static void aRuleMayBeDropped() {
        WorkCoder x = withCodes(2);
        int item = item(x, 0, 0, 1);
        x.rule(0, 0, 1);
        x.rule(0, 1, 1);
        due.is("they quarrel", x.count(7), 1);
        due.is("and clash", x.ruled(item), CLASH);
        due.is("dropped", x.drop(0), 1);
        due.is("dropped before", x.drop(0), NOT);
        due.is("dropped ones do not hold", x.holds(0, item), 0);
        due.is("nor clash", x.ruled(item), 1);
        due.is("nor quarrel", x.quarrel(0), BAD);
        due.is("nor is one counted among pairs", x.count(7), 0);
        due.is("nor have reach", x.reach(0), BAD);
        due.is("nor take words", x.with(0, 1, 1), BAD);
        due.is("nor take neither", x.with(0, 1, 0), BAD);
        due.is("but are counted among rules", x.count(3), 2);
        due.is("the other one stays", x.reach(1), 1);
        due.is("that dropped, too", x.drop(1), 1);
        due.is("nothing then", x.ruled(item), NOT);
    }

    private static void byRules() {
        WorkCoder x = withCodes(2);
        int item = item(x, 0, 0, 1);
        due.is("none holds", x.ruled(item), NOT);
        for (int rule = 0; rule < 39; rule++) {
            x.rule(5, 1, 1);
        }
        due.is("39 with one code", x.ruled(item), 1);
        x.rule(5, 0, 1);
        due.is("the last one is unlike", x.ruled(item), CLASH);
        x.day();
        due.is("a clash is doubt", x.told(item, 0), 2);
        x.with(39, 1, 2);
        due.is("the last one does not hold", x.ruled(item), 1);
        x.day();
        due.is("by the least of 39", x.told(item, 3), 0);
        for (int rule = 0; rule < 39; rule++) {
            x.with(rule, 2, 1);
        }
        due.is("none of all 40 holds", x.ruled(item), NOT);
        x.with(39, 1, 1);
        due.is("the last alone holds", x.ruled(item), 0);
        x.recode();
        x.day();
        due.is("and is named", x.told(item, 3), 39);
    }

    private static void quarrelOfNoneOneAndAll() {
        WorkCoder x = withCodes(40);
        due.is("no rules", x.quarrel(0), BAD);
        x.rule(0, 0, 1);
        due.is("one rule", x.quarrel(0), BAD);
        due.is("no pair", x.count(7), 0);
        x.rule(0, 1, 1);
        due.is("one pair", x.count(7), 1);
        due.is("that is the first", x.quarrel(0), 1);
        due.is("there is no second", x.quarrel(1), BAD);
        due.is("nor one before it", x.quarrel(-1), BAD);
        for (int code = 2; code < 40; code++) {
            x.rule(0, code, 1);
        }
        due.is("all pairs", x.count(7), 780);
        due.is("the first", x.quarrel(0), 1);
        due.is("the last of the first rule", x.quarrel(38), 39);
        due.is("the first of the second rule", x.quarrel(39), 102);
        due.is("the last", x.quarrel(779), 3839);
        due.is("no more", x.quarrel(780), BAD);
        due.is("least number", x.quarrel(MIN), BAD);
        due.is("greatest number", x.quarrel(MAX), BAD);
    }

    private static void quarrelByRankCodeAndTrade() {
        WorkCoder x = withCodes(2);
        x.rule(9, 0, 512);
        x.rule(8, 1, 512);
        x.rule(9, 1, 511);
        x.rule(9, 0, 1023);
        x.rule(9, 1, 0);
        due.is("9 and 8 are two ranks, 512 and 511 have no trade in common", x.quarrel(0), 203);
        due.is("no other pair", x.count(7), 1);
        x.rule(9, 1, 512);
        due.is("trade 9 in common", x.quarrel(0), 5);
        due.is("two pairs", x.quarrel(1), 203);
        due.is("three pairs", x.quarrel(2), 305);
        for (int word = 0; word < 60; word++) {
            x.with(0, word, 1);
            x.with(5, word, 1);
        }
        due.is("both need all words", x.quarrel(0), 5);
        x.with(5, 59, 2);
        due.is("the last is barred by the other", x.quarrel(0), 203);
        x.with(0, 59, 0);
        due.is("and not needed any more", x.quarrel(0), 5);
        x.with(0, 59, 2);
        due.is("and barred by both", x.quarrel(0), 5);
    }

    private static void reachOfNoneOneAndAll() {
        WorkCoder x = withCodes(2);
        int rule = x.rule(0, 0, ALL_TRADES);
        due.is("no items", x.reach(rule), 0);
        x.answer(1, 0, 0);
        due.is("both parts", x.reach(rule), 2);
        for (int i = 1; i < 80; i++) {
            x.answer(1, 0, 0);
        }
        due.is("all", x.reach(rule), 160);
        x.with(rule, 59, 1);
        due.is("none", x.reach(rule), 0);
        x.put(159, 59);
        due.is("the last one", x.reach(rule), 1);
        int same = x.rule(0, 0, ALL_TRADES);
        due.is("the same without it", x.reach(rule), 0);
        due.is("all but that one", x.reach(same), 159);
        int clash = x.rule(0, 1, ALL_TRADES);
        due.is("a clash with and without", x.reach(rule), 0);
        due.is("clash or code", x.reach(clash), 160);
        x.drop(clash);
        due.is("dropped", x.reach(clash), BAD);
    }

    // ---- likeness

    private static void likenessAtItsEdges() {
        WorkCoder x = new WorkCoder();
        int none = item(x, 0, 0);
        int nil = item(x, 9, 9);
        int one = item(x, 0, 0, 59);
        int most = item(x, 0, 0, words(0, 58));
        int all = item(x, 0, 0, words(0, 59));
        due.is("neither has any", x.likeness(none, nil), 0);
        due.is("nor itself", x.likeness(none, none), 0);
        due.is("one has none", x.likeness(none, one), 0);
        due.is("the other has none", x.likeness(all, none), 0);
        due.is("nothing of all", x.likeness(one, most), 0);
        due.is("1 of 60", x.likeness(one, all), 16);
        due.is("59 of 60", x.likeness(all, most), 983);
        due.is("60 of 60", x.likeness(all, all), 1000);
        due.is("1 of 1", x.likeness(one, one), 1000);
        x.put(none, 59);
        due.is("1 of 1 of two", x.likeness(none, one), 1000);
    }

    private static void nearAtItsEdges() {
        WorkCoder x = withCodes(40);
        int item = item(x, 0, 0, 1);
        due.is("none has the first code", x.near(0, item), 0);
        due.is("none has the last code", x.near(39, item), 0);
        x.day();
        x.settle(item, 0, 39);
        due.is("itself counts for nothing", x.near(39, item), 0);
        int none = item(x, 0, 0);
        due.is("without words", x.near(39, none), 0);
        int same = item(x, 9, 9, 1);
        due.is("the same set, whatever trade and schooling", x.near(39, same), 1000);
        due.is("just that code", x.near(38, same), 0);
        x.exclude(38, 1, 1);
        due.is("the one beside excludes", x.near(39, same), 1000);
        x.exclude(39, 1, 1);
        due.is("it excludes", x.near(39, same), 0);
        x.put(same, 2);
        x.exclude(39, 1, 0);
        x.exclude(39, 2, 1);
        due.is("one excluded word of two is enough", x.near(39, same), 0);
    }

    private static void leastAtItsEdges() {
        WorkCoder x = withCodes(1);
        hand(x, 0, words(0, 59));
        int little = item(x, 9, 0, 0);
        int much = item(x, 9, 1, words(0, 58));
        int whole = item(x, 9, 2, words(0, 59));
        int none = item(x, 9, 3);
        for (int wrong : new int[] {MIN, -1, 0, 1001, MAX}) {
            due.is("least " + wrong, x.gap(wrong, 0), BAD);
        }
        due.is("least 1", x.gap(1, 0), 1);
        due.is("16 is 1 at least", x.liked(little), 0);
        due.is("0 is not", x.liked(none), NOT);
        due.is("least 16", x.gap(16, 0), 1);
        due.is("16 is 16", x.liked(little), 0);
        due.is("least 17", x.gap(17, 0), 1);
        due.is("16 is not 17", x.liked(little), NOT);
        x.gap(983, 0);
        due.is("983 is 983", x.liked(much), 0);
        x.gap(984, 0);
        due.is("983 is not 984", x.liked(much), NOT);
        due.is("least 1000", x.gap(1000, 0), 1);
        due.is("1000 is 1000", x.liked(whole), 0);
        due.is("BAD leaves it", x.gap(1001, 1000), BAD);
        due.is("1000 as before, with gap 0", x.liked(whole), 0);
        due.is("983 as before", x.liked(much), NOT);
    }

    private static void gapAtItsEdges() {
        WorkCoder x = withCodes(3);
        hand(x, 2, words(0, 59));
        int whole = item(x, 9, 2, words(0, 59));
        for (int wrong : new int[] {MIN, -1, 1001, MAX}) {
            due.is("gap " + wrong, x.gap(1, wrong), BAD);
        }
        due.is("gap 1000", x.gap(1, 1000), 1);
        due.is("1000 is 1000 more than 0", x.liked(whole), 2);
        int part = hand(x, 1, 59);
        due.is("the nearest of another code", x.near(1, whole), 16);
        due.is("1000 is not 1000 more than 16", x.liked(whole), NOT);
        x.gap(1, 984);
        due.is("but 984", x.liked(whole), 2);
        x.gap(1, 985);
        due.is("and not 985", x.liked(whole), NOT);
        due.is("the coded one has 16 of another code", x.near(2, part), 16);
        x.gap(17, 0);
        due.is("which is not 17", x.liked(part), NOT);
        due.is("gap 0", x.gap(16, 0), 1);
        due.is("16 is 16 and 0 more than 0", x.liked(part), 2);
        x.gap(1, 1000);
        WorkCoder y = withCodes(3);
        int two = item(y, 0, 0, 1, 2);
        int one = item(y, 0, 1, 1, 2);
        y.day();
        y.settle(two, 0, 2);
        y.settle(one, 0, 1);
        int same = item(y, 0, 2, 1, 2);
        y.gap(1000, 1);
        due.is("0 more is not 1 more", y.liked(same), NOT);
        y.gap(1000, 0);
        due.is("0 more: the least of several", y.liked(same), 1);
    }

    private static void leastAndGapAtFirst() {
        WorkCoder x = withCodes(1);
        hand(x, 0, words(1, 59));
        int below = item(x, 9, 0, words(1, 29));
        int half = item(x, 9, 1, words(1, 29));
        x.put(half, 30);
        due.is("29 of 59", x.near(0, below), 491);
        due.is("491 is not 500", x.liked(below), NOT);
        due.is("30 of 59", x.near(0, half), 508);
        due.is("508 is", x.liked(half), 0);
        WorkCoder y = withCodes(1);
        hand(y, 0, 1, 2);
        due.is("1 of 2 is 500, which is enough", y.liked(item(y, 9, 0, 1)), 0);
        WorkCoder z = withCodes(2);
        int few = item(z, 0, 1, 1, 2);
        int more = item(z, 0, 2, 3, 4, 5);
        z.day();
        z.settle(few, 0, 0);
        z.settle(more, 0, 1);
        int between = item(z, 9, 9, 1, 2, 3, 4, 5);
        due.is("600 and 400 are 200 apart, which is enough", z.liked(between), 1);
        z.put(between, 6);
        due.is("500 and 333 are not", z.liked(between), NOT);
    }

    private static void byTheLeastItem() {
        WorkCoder x = withCodes(2);
        pairsOfParts(x, 79);
        x.day();
        due.is("all without words", x.settle(0, 0, 1), 158);
        x.answer(1, 0, 0);
        x.put(158, 1);
        x.put(159, 1);
        due.is("likeness 0 to all is none", x.day(), 0);
        x.settle(158, 0, 0);
        due.is("both are settled", x.told(159, 0), 1);
        WorkCoder y = withCodes(1);
        int first = item(y, 0, 0, 1, 2);
        int second = item(y, 0, 1, 1, 3);
        int third = item(y, 0, 2, 1, 2, 3);
        y.day();
        y.settle(second, 0, 0);
        y.settle(first, 0, 0);
        due.is("of two with 666 the least", y.day(), 1);
        due.is("whichever was coded first", y.told(third, 3), first);
        int last = item(y, 0, 3, 1, 3);
        y.day();
        due.is("the nearest, though another is lesser", y.told(last, 3), second);
    }

    // ---- days and hands

    private static void dayOfNoneOneAndAll() {
        WorkCoder x = withCodes(1);
        due.is("no items", x.day(), 0);
        int one = item(x, 0, 0);
        due.is("one, and no rule", x.day(), 0);
        due.is("it is in doubt", x.told(one, 0), 2);
        x.rule(0, 0, ALL_TRADES);
        due.is("one by the rule", x.day(), 1);
        due.is("it is coded", x.told(one, 0), 1);
        due.is("none is left", x.day(), 0);
        WorkCoder y = withCodes(1);
        pairsOfParts(y, 80);
        due.is("all in doubt", y.day(), 0);
        due.is("160 of them", y.count(6), 160);
        due.is("all in doubt still", y.day(), 0);
        y.rule(0, 0, 1);
        due.is("all by the rule", y.day(), 160);
        due.is("none is left of all", y.day(), 0);
        due.is("none is in doubt", y.count(6), 0);
        due.is("the last one's rule", y.told(159, 3), 0);
    }

    private static void dayByLikenessOfAll() {
        WorkCoder x = withCodes(1);
        x.answer(0, 9, 9);
        x.put(0, 59);
        x.day();
        x.settle(0, 9, 0);
        for (int i = 1; i < 80; i++) {
            x.answer(1, 0, 0);
            x.put(2 * i, 59);
            x.put(2 * i + 1, 59);
        }
        due.is("all others are like the first", x.day(), 158);
        due.is("the last one by an item", x.told(159, 2), 1);
        due.is("by the first item", x.told(159, 3), 0);
        due.is("the second one by it, too", x.told(2, 3), 0);
    }

    private static void firstOfNoneOneAndAll() {
        WorkCoder x = withCodes(1);
        due.is("no items", x.first(), NOT);
        pairsOfParts(x, 79);
        due.is("all new", x.first(), NOT);
        x.day();
        due.is("all in doubt and alike", x.first(), 0);
        x.settle(157, 0, 0);
        due.is("all settled", x.first(), NOT);
        x.answer(1, 0, 0);
        x.put(159, 3);
        x.day();
        due.is("of two that are not alike the least", x.first(), 158);
        x.settle(158, 0, 0);
        due.is("the last alone", x.first(), 159);
        x.settle(159, 0, 0);
        due.is("none again", x.first(), NOT);
        WorkCoder y = new WorkCoder();
        item(y, 0, 0, 1);
        item(y, 0, 1, 1);
        item(y, 0, 1, 1);
        y.day();
        due.is("two before one", y.first(), 2);
        item(y, 0, 0, 1);
        y.day();
        due.is("two and two: the least", y.first(), 0);
    }

    private static void settleOfOneAndAll() {
        WorkCoder x = withCodes(2);
        pairsOfParts(x, 80);
        x.put(159, 1);
        for (int coder : new int[] {MIN, -1, 10, MAX}) {
            due.is("coder " + coder, x.settle(0, coder, 0), BAD);
        }
        due.is("new", x.settle(0, 0, 0), NOT);
        x.day();
        for (int coder : new int[] {MIN, -1, 10, MAX}) {
            due.is("in doubt, coder " + coder, x.settle(0, coder, 0), BAD);
        }
        for (int code : new int[] {MIN, -1, 2, MAX}) {
            due.is("in doubt, code " + code, x.settle(0, 0, code), BAD);
        }
        due.is("one, by coder 0", x.settle(159, 0, 0), 1);
        due.is("by coder 0", x.told(159, 3), 0);
        due.is("all others, by coder 9", x.settle(158, 9, 1), 159);
        due.is("by coder 9", x.told(0, 3), 9);
        due.is("its code", x.told(0, 1), 1);
        due.is("coded", x.settle(0, 9, 1), NOT);
    }

    private static void staleOfNoneOneAndAll() {
        WorkCoder x = withCodes(2);
        due.is("no items", x.recode(), 0);
        pairsOfParts(x, 80);
        x.put(159, 1);
        due.is("new ones are not stale", x.count(8), 0);
        x.rule(5, 0, 1);
        x.day();
        due.is("all by the rule, and none stale", x.count(8), 0);
        due.is("so none is recoded", x.recode(), 0);
        x.with(0, 1, 2);
        due.is("the last gets nothing", x.told(159, 5), 1);
        due.is("one is stale", x.count(8), 1);
        due.is("one is recoded", x.recode(), 1);
        due.is("it is new", x.told(159, 0), 0);
        due.is("no more", x.recode(), 0);
        x.rule(5, 1, 1);
        due.is("all others get a clash", x.count(8), 159);
        x.rule(4, 0, 1);
        due.is("all others get their code again, by another rule", x.count(8), 0);
        x.rule(3, 1, 1);
        due.is("all others get another code", x.recode(), 159);
        due.is("all are new", x.count(4), 160);
        due.is("none is stale", x.count(8), 0);
    }

    // ---- seconds

    private static void secondAtItsEdges() {
        WorkCoder x = withCodes(2);
        pairsOfParts(x, 6);
        x.put(0, 1);
        x.with(x.rule(0, 0, 1), 1, 1);
        x.day();
        x.settle(1, 9, 1);
        for (int coder : new int[] {MIN, -1, 10, MAX}) {
            due.is("coder " + coder, x.second(0, coder, 0), BAD);
        }
        for (int code : new int[] {MIN, -1, 2, MAX}) {
            due.is("code " + code, x.second(0, 0, code), BAD);
        }
        due.is("none yet", x.told(0, 4), -1);
        for (int coder = 0; coder < 10; coder++) {
            due.is("of a rule's, coder " + coder, x.second(0, coder, coder % 2), 1);
            due.is("a later one in its place", x.told(0, 4), coder % 2);
            due.is("of a hand's, coder " + coder, x.second(1, coder, 0), coder == 9 ? NOT : 1);
        }
        due.is("one each", x.agree(0), 2);
        due.is("the hand's own changed nothing", x.told(1, 4), 0);
        WorkCoder y = withCodes(1);
        hand(y, 0, 1);
        item(y, 9, 9, 1);
        y.day();
        due.is("by an item", y.told(2, 2), 1);
        due.is("item 0, and coder 0", y.second(2, 0, 0), 1);
        due.is("its hand", y.second(0, 0, 0), NOT);
    }

    private static void secondGoes() {
        WorkCoder x = withCodes(2);
        int item = item(x, 0, 0, 1);
        int rule = needing(x, 0, 0, 1);
        x.day();
        x.second(item, 0, 1);
        x.with(rule, 2, 1);
        due.is("a stale one keeps it", x.told(item, 4), 1);
        due.is("and is counted", x.agree(0), 1);
        x.recode();
        due.is("it went", x.told(item, 4), -1);
        due.is("and is not counted", x.agree(0), 0);
        x.day();
        due.is("not for one in doubt", x.second(item, 0, 1), NOT);
        x.settle(item, 0, 0);
        due.is("it does not come back", x.told(item, 4), -1);
        due.is("none is counted", x.agree(0), 0);
    }

    private static void agreementOfNoneAndOne() {
        WorkCoder x = withCodes(2);
        agreed(x, "no items", 0, 0, 0, 0, 0, 0);
        int item = item(x, 0, 0, 1);
        agreed(x, "a new one", 0, 0, 0, 0, 0, 0);
        x.day();
        agreed(x, "one in doubt", 0, 0, 0, 0, 0, 0);
        x.settle(item, 0, 0);
        agreed(x, "one without a second", 0, 0, 0, 0, 0, 1);
        x.second(item, 1, 0);
        agreed(x, "one with that code", 1, 1, 0, 0, 1, 1);
        x.second(item, 1, 1);
        agreed(x, "one with another", 1, 0, 0, 1, 0, 0);
        for (int wrong : new int[] {MIN, -1, 6, MAX}) {
            due.is("agree(" + wrong + ")", x.agree(wrong), -1000000000L);
        }
    }

    private static void agreed(WorkCoder x, String when, long... want) {
        for (int what = 0; what < want.length; what++) {
            due.is("agree(" + what + "): " + when, x.agree(what), want[what]);
        }
    }

    private static void agreementOfAll() {
        WorkCoder x = withCodes(2);
        pairsOfParts(x, 80);
        x.day();
        x.settle(0, 0, 0);
        seconds(x, 0, 160, 0);
        agreed(x, "all with that code", 160, 160, 0, 0, 160, 160);
        seconds(x, 0, 160, 1);
        agreed(x, "all with the other", 160, 0, 0, 25600, 0, 0);
        WorkCoder y = withCodes(2);
        pairsOfParts(y, 40);
        y.day();
        y.settle(0, 0, 0);
        for (int i = 0; i < 40; i++) {
            y.answer(1, 1, 0);
        }
        y.day();
        y.settle(80, 0, 1);
        seconds(y, 0, 80, 1);
        seconds(y, 80, 160, 0);
        agreed(y, "each half has the other's", 160, 0, -12800, 12800, 0, 0);
    }

    private static void seconds(WorkCoder x, int from, int to, int code) {
        for (int item = from; item < to; item++) {
            due.is("second of " + item, x.second(item, 1, code), 1);
        }
    }

    private static void agreementLeastAndGreatest() {
        WorkCoder x = withCodes(1);
        pairsOfParts(x, 2);
        x.day();
        x.settle(0, 0, 0);
        agreed(x, "one code, and no second: none could have another", 0, 0, 0, 0, 4, 4);
        x.second(3, 9, 0);
        agreed(x, "one code, and a second", 1, 1, 0, 0, 4, 4);
        x.code(0);
        agreed(x, "two codes", 1, 1, 0, 0, 1, 4);
        x.second(2, 9, 1);
        agreed(x, "a second with another code", 2, 1, 0, 2, 1, 3);
        x.second(0, 9, 1);
        x.second(1, 9, 0);
        agreed(x, "all have seconds", 4, 2, 0, 8, 2, 2);
    }

    // ---- the other scheme

    private static void othersAre0To29() {
        WorkCoder x = withCodes(40);
        due.is("no other code at first", x.total(0, 0), BAD);
        for (int other = 0; other < 30; other++) {
            due.is("under -2", x.other(-2), BAD);
            due.is("under itself", x.other(other), BAD);
            due.is("under a greater one", x.other(other + 1), BAD);
            due.is("it is not yet", x.total(other, 0), BAD);
            due.is("under the one before it, or at the top", x.other(other - 1), other);
            due.is("it is", x.total(other, 1), 0);
        }
        due.is("the 31st at the top", x.other(-1), FULL);
        due.is("the 31st under the last", x.other(29), FULL);
        due.is("full, and under one that is not", x.other(30), BAD);
        due.is("full, and under -2", x.other(-2), BAD);
        due.is("30 of them", x.count(9), 30);
        due.is("a code may not carry to 30", x.carry(39, 30, 1), BAD);
        due.is("nor to -1", x.carry(39, -1, 1), BAD);
        due.is("nor may 40 carry", x.carry(40, 29, 1), BAD);
        due.is("39 may to 29", x.carry(39, 29, 1), 0);
        hand(x, 39, 1);
        for (int other = 0; other < 30; other++) {
            due.is("the whole way up from 29: " + other, x.total(other, 0), 1);
        }
        for (int what : new int[] {MIN, -1, 2, MAX}) {
            due.is("what " + what, x.total(29, what), BAD);
        }
    }

    private static void carriesToASet() {
        WorkCoder x = withCodes(1);
        for (int i = 0; i < 30; i++) {
            x.other(i == 0 || i == 29 ? -1 : 0);
        }
        hand(x, 0, 1);
        totals(x, "to none", 0, 0, 0, 0, 0, 0);
        x.carry(0, 28, 1);
        totals(x, "to one below the top", 1, 1, 1, 1, 0, 0);
        for (int other = 0; other < 29; other++) {
            x.carry(0, other, 1);
        }
        totals(x, "to the top and all below it", 1, 1, 0, 1, 0, 0);
        x.carry(0, 29, 1);
        totals(x, "to all 30", 0, 1, 0, 1, 0, 1);
        for (int other = 0; other < 29; other++) {
            due.is("it carried", x.carry(0, other, 0), 1);
        }
        totals(x, "to the last alone", 0, 0, 0, 0, 1, 1);
        due.is("is 2", x.carry(0, 29, 2), BAD);
        due.is("is -1", x.carry(0, 29, -1), BAD);
        due.is("it did", x.carry(0, 29, 0), 1);
        totals(x, "to none again", 0, 0, 0, 0, 0, 0);
    }

    /** Least and greatest of the top, of one below it, and of the last, which is a top, too. */
    private static void totals(WorkCoder x, String when, int... want) {
        int[] others = {0, 28, 29};
        for (int i = 0; i < want.length; i++) {
            due.is("total(" + others[i / 2] + ", " + i % 2 + "): " + when, x.total(others[i / 2], i % 2), want[i]);
        }
    }

    private static void totalOfNoneAndAll() {
        WorkCoder x = withCodes(2);
        x.other(-1);
        x.carry(0, 0, 1);
        due.is("no items", x.total(0, 1), 0);
        pairsOfParts(x, 80);
        due.is("new ones", x.total(0, 1), 0);
        x.day();
        due.is("ones in doubt", x.total(0, 1), 0);
        due.is("none below the code", x.coded(0), 0);
        x.settle(0, 0, 0);
        due.is("all, least", x.total(0, 0), 160);
        due.is("all, greatest", x.total(0, 1), 160);
        due.is("all below the code", x.coded(0), 160);
        due.is("none below the other one", x.coded(1), 0);
        due.is("all are coded", x.count(5), 160);
    }

    // ---- answers

    private static void ofSeveralTheOneNamedFirst() {
        WorkCoder x = withCodes(40);
        for (int i = 0; i < 30; i++) {
            x.other(-1);
        }
        pairsOfParts(x, 80);
        for (int i = 0; i < 40; i++) {
            x.rule(0, 0, 512);
        }
        due.is("code: BAD before FULL", x.code(40), BAD);
        due.is("code: FULL", x.code(39), FULL);
        due.is("other: BAD before FULL", x.other(30), BAD);
        due.is("other: FULL", x.other(29), FULL);
        due.is("answer: BAD before FULL", x.answer(2, 0, 0), BAD);
        due.is("answer: BAD before FULL, trade", x.answer(0, 10, 0), BAD);
        due.is("answer: BAD before FULL, schooling", x.answer(0, 0, 10), BAD);
        due.is("answer: FULL", x.answer(1, 9, 9), FULL);
        due.is("rule: BAD before FULL, rank", x.rule(10, 0, 0), BAD);
        due.is("rule: BAD before FULL, code", x.rule(0, 40, 0), BAD);
        due.is("rule: BAD before FULL, trades", x.rule(0, 0, 1024), BAD);
        due.is("rule: FULL", x.rule(9, 39, 1023), FULL);
        due.is("settle: BAD before NOT, coder", x.settle(0, 10, 0), BAD);
        due.is("settle: BAD before NOT, code", x.settle(0, 0, 40), BAD);
        due.is("settle: NOT", x.settle(0, 9, 39), NOT);
        due.is("second: BAD before NOT, coder", x.second(0, 10, 0), BAD);
        due.is("second: BAD before NOT, code", x.second(0, 0, 40), BAD);
        due.is("second: NOT", x.second(0, 9, 39), NOT);
        x.put(0, 59);
        due.is("put: BAD before NOT, item", x.put(160, 59), BAD);
        due.is("put: BAD before NOT, word", x.put(0, 60), BAD);
        due.is("put: NOT", x.put(0, 59), NOT);
        x.day();
        due.is("put in doubt: BAD before NOT", x.put(0, 60), BAD);
        due.is("put in doubt: NOT", x.put(0, 58), NOT);
        x.settle(0, 3, 0);
        due.is("settle of a coded one: BAD before NOT", x.settle(0, 3, 40), BAD);
        due.is("second by the hand: BAD before NOT", x.second(0, 3, 40), BAD);
        due.is("second by the hand: NOT", x.second(0, 3, 39), NOT);
        x.drop(39);
        due.is("drop: BAD", x.drop(40), BAD);
        due.is("drop: NOT", x.drop(39), NOT);
    }

    /** Whatever one office is told, another one is as it was: one made before, and one made after it. */
    private static void allMemoryIsItsOwn() {
        WorkCoder before = new WorkCoder();
        WorkCoder x = Offices.full();
        x.exclude(0, 1, 1);
        x.spell(1, 59);
        x.carry(0, 0, 1);
        x.with(0, 1, 1);
        x.gap(1000, 1000);
        isAsAtFirst("made before", before);
        isAsAtFirst("made after", new WorkCoder());
        int[] counts = {40, 80, 160, 40, 0, 160, 0, 780, 0, 30};
        for (int what = 0; what < counts.length; what++) {
            due.is("the first one's count " + what, x.count(what), counts[what]);
        }
        due.is("it excludes", x.exclude(0, 1, 0), 1);
        due.is("it spells", x.spell(1, 1), 59);
        due.is("it carries", x.carry(0, 0, 0), 1);
        due.is("its rule needs", x.with(0, 1, 0), 1);
    }

    private static void isAsAtFirst(String name, WorkCoder y) {
        for (int what = 0; what < 10; what++) {
            due.is(name + ": count " + what, y.count(what), 0);
        }
        due.is(name + ": its first code", y.code(-1), 0);
        due.is(name + ": excludes nothing", y.exclude(0, 1, 0), 0);
        due.is(name + ": each word for itself", y.spell(1, 1), 1);
        due.is(name + ": its first other code", y.other(-1), 0);
        due.is(name + ": carries to nothing", y.carry(0, 0, 0), 0);
        due.is(name + ": its first rule", y.rule(0, 0, 0), 0);
        due.is(name + ": needs nothing", y.with(0, 1, 0), 0);
        due.is(name + ": its first item", hand(y, 0, 1, 2), 0);
        due.is(name + ": LEAST and GAP at first", y.liked(item(y, 9, 9, 1)), 0);
        due.is(name + ": by its own hand alone", y.agree(0), 0);
    }

    /** An office is used for 512 calls; the last of them answers like the first. */
    private static void the512thCall() {
        WorkCoder x = withCodes(40);
        pairsOfParts(x, 80);
        for (int item = 0; item < 160; item++) {
            x.put(item, item % 60);
        }
        for (int rule = 0; rule < 40; rule++) {
            x.rule(9, rule, 1);
            x.with(rule, rule, 1);
        }
        for (int i = 0; i < 60; i++) {
            x.likeness(0, i);
        }
        for (int i = 0; i < 40; i++) {
            x.reach(i);
        }
        for (int i = 0; i < 30; i++) {
            x.other(-1);
        }
        x.recode();
        // So many calls until here: 40 + 80 + 160 + 80 + 60 + 40 + 30 + 1 = 491; each word below 40 has its rule.
        for (int i = 0; i < 20; i++) {
            x.first();
        }
        due.is("the 512th call", x.day(), 120);
    }
}
