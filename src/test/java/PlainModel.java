import java.util.ArrayList;
import java.util.HashMap;
import java.util.HashSet;
import java.util.List;
import java.util.Map;
import java.util.Set;
import java.util.TreeMap;

/** The document said over again as plainly as can be, with sets and lists and nothing kept. */
final class PlainModel {
    private static final int BAD = -1, NOT = -2, FULL = -3, CLASH = -5;

    private static final class Code {
        int under;
        Set<Integer> excludes = new HashSet<>();
        Set<Integer> carriesTo = new HashSet<>();
    }

    private static final class Part {
        int trade;
        int schooling;
        Set<Integer> words = new HashSet<>();
        String state = "NEW";
        int code = -1;
        String by = "";
        int number = -1;
        Integer second = null;
    }

    private static final class Law {
        int rank;
        int code;
        Set<Integer> trades = new HashSet<>();
        Map<Integer, Integer> words = new HashMap<>();
        boolean dropped;
    }

    private final List<Code> codes = new ArrayList<>();
    private final List<Integer> others = new ArrayList<>();
    private final Map<Integer, Integer> spelling = new HashMap<>();
    private int answers;
    private final TreeMap<Integer, Part> parts = new TreeMap<>();
    private final List<Law> laws = new ArrayList<>();
    private int least = 500;
    private int gap = 200;

    private static boolean out(int n, int limit) {
        return n < 0 || n >= limit;
    }

    private Set<Integer> setOf(Part p) {
        Set<Integer> set = new HashSet<>();
        for (int w : p.words) {
            set.add(spelling.getOrDefault(w, w));
        }
        return set;
    }

    private boolean alike(Part a, Part b) {
        return setOf(a).equals(setOf(b)) && a.trade == b.trade && a.schooling == b.schooling;
    }

    private List<Integer> wayUp(int code) {
        List<Integer> way = new ArrayList<>();
        for (int c = code; c >= 0; c = codes.get(c).under) {
            way.add(c);
        }
        return way;
    }

    private boolean otherBelow(int code, int top) {
        for (int c = code; c >= 0; c = others.get(c)) {
            if (c == top) {
                return true;
            }
        }
        return false;
    }

    int code(int under) {
        if (under != -1 && out(under, codes.size())) return BAD;
        if (codes.size() == 40) return FULL;
        Code c = new Code();
        c.under = under;
        codes.add(c);
        return codes.size() - 1;
    }

    int exclude(int code, int word, int is) {
        if (out(code, codes.size()) || out(word, 60) || out(is, 2)) return BAD;
        Set<Integer> set = codes.get(code).excludes;
        return (is == 1 ? !set.add(word) : set.remove(word)) ? 1 : 0;
    }

    int spell(int word, int is) {
        if (out(word, 60) || out(is, 60)) return BAD;
        Integer was = spelling.put(word, is);
        return was == null ? word : was;
    }

    int other(int under) {
        if (under != -1 && out(under, others.size())) return BAD;
        if (others.size() == 30) return FULL;
        others.add(under);
        return others.size() - 1;
    }

    int carry(int code, int other, int is) {
        if (out(code, codes.size()) || out(other, others.size()) || out(is, 2)) return BAD;
        Set<Integer> set = codes.get(code).carriesTo;
        return (is == 1 ? !set.add(other) : set.remove(other)) ? 1 : 0;
    }

    int answer(int sort, int trade, int schooling) {
        if (out(sort, 2) || out(trade, 10) || out(schooling, 10)) return BAD;
        if (answers == 80) return FULL;
        for (int part = 0; part <= sort; part++) {
            Part p = new Part();
            p.trade = trade;
            p.schooling = schooling;
            parts.put(2 * answers + part, p);
        }
        return answers++;
    }

    int put(int item, int word) {
        Part p = parts.get(item);
        if (p == null || out(word, 60)) return BAD;
        if (!p.state.equals("NEW") || !p.words.add(word)) return NOT;
        return p.words.size();
    }

    int set(int item, int what) {
        Part p = parts.get(item);
        if (p == null || out(what, 2)) return BAD;
        return what == 0 ? setOf(p).size() : (int) parts.values().stream().filter(q -> alike(p, q)).count();
    }

    int rule(int rank, int code, int trades) {
        if (out(rank, 10) || out(code, codes.size()) || out(trades, 1024)) return BAD;
        if (laws.size() == 40) return FULL;
        Law law = new Law();
        law.rank = rank;
        law.code = code;
        for (int t = 0; t < 10; t++) {
            if ((trades / (1 << t)) % 2 == 1) law.trades.add(t);
        }
        laws.add(law);
        return laws.size() - 1;
    }

    int with(int rule, int word, int how) {
        if (out(rule, laws.size()) || laws.get(rule).dropped || out(word, 60) || out(how, 3)) return BAD;
        Integer was = laws.get(rule).words.put(word, how);
        return was == null ? 0 : was;
    }

    int drop(int rule) {
        if (out(rule, laws.size())) return BAD;
        if (laws.get(rule).dropped) return NOT;
        laws.get(rule).dropped = true;
        return 1;
    }

    private boolean lawHolds(Law law, Part p) {
        if (law.dropped || !law.trades.contains(p.trade)) return false;
        Set<Integer> set = setOf(p);
        for (Map.Entry<Integer, Integer> e : law.words.entrySet()) {
            if (e.getValue() == 1 && !set.contains(e.getKey())) return false;
            if (e.getValue() == 2 && set.contains(e.getKey())) return false;
        }
        return true;
    }

    int holds(int rule, int item) {
        if (out(rule, laws.size()) || !parts.containsKey(item)) return BAD;
        return lawHolds(laws.get(rule), parts.get(item)) ? 1 : 0;
    }

    /** What, and by which rule. */
    private int[] byRules(Part p) {
        for (int rank = 0; rank < 10; rank++) {
            Set<Integer> found = new HashSet<>();
            int by = -1;
            for (int r = laws.size() - 1; r >= 0; r--) {
                if (laws.get(r).rank == rank && lawHolds(laws.get(r), p)) {
                    found.add(laws.get(r).code);
                    by = r;
                }
            }
            if (found.size() == 1) return new int[] {found.iterator().next(), by};
            if (found.size() > 1) return new int[] {CLASH, -1};
        }
        return new int[] {NOT, -1};
    }

    int ruled(int item) {
        return parts.containsKey(item) ? byRules(parts.get(item))[0] : BAD;
    }

    private List<Integer> quarrels() {
        List<Integer> pairs = new ArrayList<>();
        for (int a = 0; a < laws.size(); a++) {
            for (int b = a + 1; b < laws.size(); b++) {
                Law x = laws.get(a);
                Law y = laws.get(b);
                Set<Integer> common = new HashSet<>(x.trades);
                common.retainAll(y.trades);
                boolean could = !x.dropped && !y.dropped && x.rank == y.rank && x.code != y.code && !common.isEmpty();
                for (int w = 0; w < 60; w++) {
                    int how = x.words.getOrDefault(w, 0) * 10 + y.words.getOrDefault(w, 0);
                    could = could && how != 12 && how != 21;
                }
                if (could) pairs.add(100 * a + b);
            }
        }
        return pairs;
    }

    int quarrel(int i) {
        List<Integer> pairs = quarrels();
        return out(i, pairs.size()) ? BAD : pairs.get(i);
    }

    int reach(int rule) {
        if (out(rule, laws.size()) || laws.get(rule).dropped) return BAD;
        Map<Integer, Integer> before = new HashMap<>();
        parts.forEach((i, p) -> before.put(i, byRules(p)[0]));
        laws.get(rule).dropped = true;
        int n = 0;
        for (int i : parts.keySet()) {
            if (before.get(i) != byRules(parts.get(i))[0]) n++;
        }
        laws.get(rule).dropped = false;
        return n;
    }

    int gap(int newLeast, int newGap) {
        if (newLeast < 1 || newLeast > 1000 || newGap < 0 || newGap > 1000) return BAD;
        least = newLeast;
        gap = newGap;
        return 1;
    }

    private int like(Part a, Part b) {
        Set<Integer> both = setOf(a);
        both.retainAll(setOf(b));
        Set<Integer> either = setOf(a);
        either.addAll(setOf(b));
        return either.isEmpty() ? 0 : 1000 * both.size() / either.size();
    }

    int likeness(int a, int b) {
        if (!parts.containsKey(a) || !parts.containsKey(b)) return BAD;
        return like(parts.get(a), parts.get(b));
    }

    private int nearOf(int code, int item) {
        Part p = parts.get(item);
        for (int c : wayUp(code)) {
            for (int w : setOf(p)) {
                if (codes.get(c).excludes.contains(w)) return 0;
            }
        }
        int most = 0;
        for (int i : parts.keySet()) {
            if (i != item && parts.get(i).code == code) most = Math.max(most, like(p, parts.get(i)));
        }
        return most;
    }

    int near(int code, int item) {
        return out(code, codes.size()) || !parts.containsKey(item) ? BAD : nearOf(code, item);
    }

    int liked(int item) {
        if (!parts.containsKey(item)) return BAD;
        for (int c = 0; c < codes.size(); c++) {
            int rest = 0;
            boolean best = true;
            int mine = nearOf(c, item);
            for (int d = 0; d < codes.size(); d++) {
                if (d == c) continue;
                int its = nearOf(d, item);
                rest = Math.max(rest, its);
                best = best && (d < c ? its < mine : its <= mine);
            }
            if (best) return mine >= least && mine >= gap + rest ? c : NOT;
        }
        return NOT;
    }

    int day() {
        Map<Integer, int[]> gets = new HashMap<>();
        for (int i : parts.keySet()) {
            Part p = parts.get(i);
            if (p.state.equals("CODED")) continue;
            int[] law = byRules(p);
            int kind = 0;
            if (law[0] == NOT && liked(i) != NOT) {
                law[0] = liked(i);
                kind = 1;
                for (int j : parts.descendingKeySet()) {
                    if (parts.get(j).code == law[0] && like(p, parts.get(j)) == nearOf(law[0], i)) law[1] = j;
                }
            }
            gets.put(i, new int[] {law[0], kind, law[1]});
        }
        int n = 0;
        for (int i : gets.keySet()) {
            int[] g = gets.get(i);
            Part p = parts.get(i);
            p.state = g[0] < 0 ? "DOUBT" : "CODED";
            if (g[0] >= 0) {
                p.code = g[0];
                p.by = g[1] == 0 ? "RULE" : "ITEM";
                p.number = g[2];
                n++;
            }
        }
        return n;
    }

    private List<Integer> doubtsLike(int item) {
        List<Integer> found = new ArrayList<>();
        for (int j : parts.keySet()) {
            if (parts.get(j).state.equals("DOUBT") && alike(parts.get(item), parts.get(j))) found.add(j);
        }
        return found;
    }

    int first() {
        int best = NOT;
        for (int i : parts.descendingKeySet()) {
            if (!parts.get(i).state.equals("DOUBT")) continue;
            if (best == NOT || doubtsLike(i).size() >= doubtsLike(best).size()) best = i;
        }
        return best;
    }

    int settle(int item, int coder, int code) {
        if (!parts.containsKey(item) || out(coder, 10) || out(code, codes.size())) return BAD;
        if (!parts.get(item).state.equals("DOUBT")) return NOT;
        List<Integer> all = doubtsLike(item);
        for (int i : all) {
            Part p = parts.get(i);
            p.state = "CODED";
            p.code = code;
            p.by = "HAND";
            p.number = coder;
        }
        return all.size();
    }

    private boolean stale(Part p) {
        return p.by.equals("RULE") && byRules(p)[0] != p.code;
    }

    int recode() {
        int n = 0;
        for (Part p : parts.values()) {
            if (!stale(p)) continue;
            p.state = "NEW";
            p.code = -1;
            p.by = "";
            p.number = -1;
            p.second = null;
            n++;
        }
        return n;
    }

    int second(int item, int coder, int code) {
        if (!parts.containsKey(item) || out(coder, 10) || out(code, codes.size())) return BAD;
        Part p = parts.get(item);
        if (!p.state.equals("CODED") || p.by.equals("HAND") && p.number == coder) return NOT;
        p.second = code;
        return 1;
    }

    int told(int item, int what) {
        if (!parts.containsKey(item) || out(what, 6)) return BAD;
        Part p = parts.get(item);
        if (what == 0) return List.of("NEW", "CODED", "DOUBT").indexOf(p.state);
        if (what == 1) return p.code;
        if (what == 2) return List.of("RULE", "ITEM", "HAND").indexOf(p.by);
        if (what == 3) return p.number;
        if (what == 4) return p.second == null ? -1 : p.second;
        return stale(p) ? 1 : 0;
    }

    int coded(int code) {
        if (out(code, codes.size())) return BAD;
        return (int) parts.values().stream().filter(p -> wayUp(p.code).contains(code)).count();
    }

    int total(int other, int what) {
        if (out(other, others.size()) || out(what, 2)) return BAD;
        int n = 0;
        for (Part p : parts.values()) {
            if (p.code < 0) continue;
            Set<Integer> to = codes.get(p.code).carriesTo;
            boolean counts = what == 0
                    ? !to.isEmpty() && to.stream().allMatch(o -> otherBelow(o, other))
                    : to.stream().anyMatch(o -> otherBelow(o, other));
            if (counts) n++;
        }
        return n;
    }

    long agree(int what) {
        long n = 0;
        long a = 0;
        long e = 0;
        long coded = 0;
        for (Part p : parts.values()) {
            if (p.code >= 0) coded++;
            if (p.second == null) continue;
            n++;
            if (p.second == p.code) a++;
            for (Part q : parts.values()) {
                if (q.second != null && q.second == p.code) e++;
            }
        }
        if (what == 0) return n;
        if (what == 1) return a;
        if (what == 2) return n * a - e;
        if (what == 3) return n * n - e;
        if (what == 4) return codes.size() == 1 ? coded : a;
        if (what == 5) return a + coded - n;
        return -1000000000L;
    }

    int count(int what) {
        if (what == 0) return codes.size();
        if (what == 1) return answers;
        if (what == 2) return parts.size();
        if (what == 3) return laws.size();
        if (what == 4) return (int) parts.values().stream().filter(p -> p.state.equals("NEW")).count();
        if (what == 5) return (int) parts.values().stream().filter(p -> p.state.equals("CODED")).count();
        if (what == 6) return (int) parts.values().stream().filter(p -> p.state.equals("DOUBT")).count();
        if (what == 7) return quarrels().size();
        if (what == 8) return (int) parts.values().stream().filter(this::stale).count();
        if (what == 9) return others.size();
        return BAD;
    }
}
