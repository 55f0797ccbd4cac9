import java.util.Random;

/** Long runs of calls, the same ones each time, held against the plain model call by call. */
public final class ModelTest {
    private static final int RUNS = 600;
    private static final int CALLS = 512;
    private static final int[] EDGES = {Integer.MIN_VALUE, -1000000000, -3, -2, -1, 0, 1, 2, 9, 10, 29, 30, 31,
        39, 40, 41, 59, 60, 61, 63, 64, 79, 80, 159, 160, 161, 1000, 1001, 1023, 1024, Integer.MAX_VALUE};

    private final Due due = new Due();
    private Random random;
    private WorkCoder real;
    private PlainModel model;
    // How many words, trades, codes and so on a run draws from: few, so that things meet.
    private int words;
    private int trades;
    private int codes;
    private String run;

    public static void main(String[] args) {
        ModelTest test = new ModelTest();
        for (int i = 0; i < RUNS; i++) {
            test.oneRun(i);
        }
        test.due.end("ModelTest");
    }

    private void oneRun(int number) {
        random = new Random(number);
        real = new WorkCoder();
        model = new PlainModel();
        words = 1 + random.nextInt(number % 3 == 0 ? 60 : 8);
        trades = 1 + random.nextInt(number % 5 == 0 ? 10 : 2);
        codes = 1 + random.nextInt(number % 4 == 0 ? 40 : 6);
        run = "run " + number + ": ";
        int building = random.nextInt(250);
        for (int call = 0; call < CALLS; call++) {
            step(call < building && random.nextInt(4) > 0 ? random.nextInt(9) : random.nextInt(34));
        }
    }

    /** Mostly a number below the limit, now and then one that is likely wrong. */
    private int some(int limit) {
        if (random.nextInt(40) == 0) {
            return EDGES[random.nextInt(EDGES.length)];
        }
        return random.nextInt(Math.max(1, limit));
    }

    private int item() {
        return some(2 * model.count(1));
    }

    private int code() {
        return some(Math.min(codes, model.count(0) + (random.nextInt(20) == 0 ? 1 : 0)));
    }

    private int under(int made) {
        return random.nextInt(3) == 0 ? -1 : some(made);
    }

    private void check(String name, long got, long want, int... with) {
        StringBuilder call = new StringBuilder(run + name + "(");
        for (int i = 0; i < with.length; i++) {
            call.append(i == 0 ? "" : ", ").append(with[i]);
        }
        due.is(call.append(")").toString(), got, want);
    }

    private void step(int kind) {
        if (kind < 9) {
            build(kind);
        } else if (kind < 17) {
            aboutRules(kind);
        } else if (kind < 25) {
            aboutCoding(kind);
        } else {
            look(kind);
        }
    }

    private void build(int kind) {
        switch (kind) {
            case 0:
                if (model.count(0) < codes || random.nextInt(9) == 0) {
                    int under = under(model.count(0));
                    check("code", real.code(under), model.code(under), under);
                }
                break;
            case 1: {
                int under = under(model.count(9));
                check("other", real.other(under), model.other(under), under);
                break;
            }
            case 2:
            case 3: {
                int sort = some(2), trade = some(trades), schooling = some(trades);
                check("answer", real.answer(sort, trade, schooling), model.answer(sort, trade, schooling),
                        sort, trade, schooling);
                break;
            }
            case 4:
            case 5: {
                int item = item(), word = some(words);
                check("put", real.put(item, word), model.put(item, word), item, word);
                break;
            }
            case 6: {
                int rank = some(random.nextInt(3) == 0 ? 10 : 2), code = code();
                int of = random.nextInt(3) == 0 ? 1023 : some(1024);
                check("rule", real.rule(rank, code, of), model.rule(rank, code, of), rank, code, of);
                break;
            }
            case 7: {
                int rule = some(model.count(3)), word = some(words), how = some(3);
                check("with", real.with(rule, word, how), model.with(rule, word, how), rule, word, how);
                break;
            }
            default: {
                int code = code(), other = some(model.count(9)), is = some(2);
                check("carry", real.carry(code, other, is), model.carry(code, other, is), code, other, is);
                break;
            }
        }
    }

    private void aboutRules(int kind) {
        int rule = some(model.count(3));
        int item = item();
        int word = some(words);
        switch (kind) {
            case 9:
                if (random.nextInt(3) == 0) {
                    check("drop", real.drop(rule), model.drop(rule), rule);
                }
                break;
            case 10:
                check("holds", real.holds(rule, item), model.holds(rule, item), rule, item);
                break;
            case 11:
                check("ruled", real.ruled(item), model.ruled(item), item);
                break;
            case 12: {
                int i = some(model.count(7) + 1);
                check("quarrel", real.quarrel(i), model.quarrel(i), i);
                break;
            }
            case 13:
                check("reach", real.reach(rule), model.reach(rule), rule);
                break;
            case 14: {
                int code = code(), is = some(2);
                check("exclude", real.exclude(code, word, is), model.exclude(code, word, is), code, word, is);
                break;
            }
            case 15: {
                int is = random.nextInt(3) == 0 ? word : some(words);
                check("spell", real.spell(word, is), model.spell(word, is), word, is);
                break;
            }
            default: {
                int least = some(1001), gap = some(random.nextInt(2) == 0 ? 1001 : 300);
                check("gap", real.gap(least, gap), model.gap(least, gap), least, gap);
                break;
            }
        }
    }

    private void aboutCoding(int kind) {
        int item = item();
        int coder = some(3);
        int code = code();
        switch (kind) {
            case 17:
                check("day", real.day(), model.day());
                break;
            case 18:
                check("first", real.first(), model.first());
                break;
            case 19:
            case 20:
                item = random.nextBoolean() ? model.first() : item;
                check("settle", real.settle(item, coder, code), model.settle(item, coder, code), item, coder, code);
                break;
            case 21:
                check("recode", real.recode(), model.recode());
                break;
            case 22:
            case 23:
                code = random.nextBoolean() ? model.told(item, 1) : code;
                check("second", real.second(item, coder, code), model.second(item, coder, code), item, coder, code);
                break;
            default: {
                int what = some(6);
                check("told", real.told(item, what), model.told(item, what), item, what);
                break;
            }
        }
    }

    private void look(int kind) {
        int item = item();
        int code = code();
        int what = some(2);
        switch (kind) {
            case 25:
                check("set", real.set(item, what), model.set(item, what), item, what);
                break;
            case 26: {
                int two = item();
                check("likeness", real.likeness(item, two), model.likeness(item, two), item, two);
                break;
            }
            case 27:
                check("near", real.near(code, item), model.near(code, item), code, item);
                break;
            case 28:
                check("liked", real.liked(item), model.liked(item), item);
                break;
            case 29:
                check("coded", real.coded(code), model.coded(code), code);
                break;
            case 30: {
                int other = some(model.count(9));
                check("total", real.total(other, what), model.total(other, what), other, what);
                break;
            }
            case 31: {
                int of = some(6);
                check("agree", real.agree(of), model.agree(of), of);
                break;
            }
            case 32: {
                int of = some(10);
                check("count", real.count(of), model.count(of), of);
                break;
            }
            default: {
                int of = some(6);
                check("told", real.told(item, of), model.told(item, of), item, of);
                break;
            }
        }
    }
}
