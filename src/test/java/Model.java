import java.math.BigInteger;
import java.util.ArrayList;
import java.util.Comparator;
import java.util.List;
import java.util.Set;
import java.util.TreeMap;
import java.util.TreeSet;

/** The document once more, as slow and as plain as can be: what OddPayments answers is held against it. */
final class Model {
    static final int NONE = -1000000, BAD = -1000001, STATE = -1000002, FULL = -1000003;
    static final List<String> FEATURES =
            List.of("amount", "sort", "hour", "count", "sum", "payees", "seen", "ratio", "far", "into");

    record Pay(int number, int tag, int time, int payer, int payee, int amount, int sort) { }
    record Test(int feature, char sign, int number) { }
    record Rule(int weight, List<Test> tests) { }
    record Token(String text, int place, char type) { }

    static final class Fault extends Exception {
        private static final long serialVersionUID = 1;
        final int number;
        final int place;
        Fault(int number, int place) { this.number = number; this.place = place; }
    }

    static final class Paper {
        int lane;
        List<Integer> items = new ArrayList<>();
    }

    Paper[] papers = new Paper[8];
    List<Pay> pays = new ArrayList<>();
    TreeMap<Integer, Integer> verdicts = new TreeMap<>();
    Set<Integer> marked = new TreeSet<>();
    List<Rule> rules = new ArrayList<>();
    int window = 100, decay = 50, look = 10, block = 20;
    List<Byte> tape = new ArrayList<>();
    int fault = 0, status = 0, blockCost = 50, lookCost = 5;
    List<Integer> trace = new ArrayList<>();

    static boolean out(long v, long a, long b) { return v < a || v > b; }

    int find(int f) { status = f; return -1000010 - f; }

    int fine(int v) { status = 0; return v; }

    // ---- sheets
    int sheet(int s, int lane, int n) {
        if (out(s, 0, 7) || out(lane, 0, 2) || n > 120) return BAD;
        if (n < 0) return find(4);
        papers[s] = new Paper();
        papers[s].lane = lane;
        for (int i = 0; i < n; i++) papers[s].items.add(0);
        return fine(n);
    }

    int set(int s, int i, int v) {
        if (out(s, 0, 7)) return BAD;
        if (papers[s] == null) return find(1);
        if (out(i, 0, papers[s].items.size() - 1)) return find(2);
        int bits = 8 << papers[s].lane;
        long low = Integer.toUnsignedLong(v) % (1L << bits);
        int kept = (int) (low >= 1L << bits - 1 ? low - (1L << bits) : low);
        papers[s].items.set(i, kept);
        return fine(kept);
    }

    int copy(int a, int i, int b, int j, int n) {
        if (out(a, 0, 7) || out(b, 0, 7)) return BAD;
        if (papers[a] == null || papers[b] == null) return find(1);
        if (papers[a].lane != papers[b].lane) return find(5);
        if (i < 0 || j < 0 || n < 0) return find(2);
        if ((long) i + n > papers[a].items.size() || (long) j + n > papers[b].items.size()) return find(2);
        List<Integer> ahead = new ArrayList<>(papers[a].items);
        for (int k = 0; k < n; k++) papers[b].items.set(j + k, ahead.get(i + k));
        return fine(n);
    }

    int drop(int s) {
        if (out(s, 0, 7)) return BAD;
        if (papers[s] == null) return find(1);
        int n = papers[s].items.size();
        papers[s] = null;
        return fine(n);
    }

    // ---- payments
    Pay byTag(int tag) {
        for (Pay p : pays) if (p.tag == tag) return p;
        return null;
    }

    int pay(int tag, int time, int payer, int payee, int amount, int sort) {
        if (out(tag, 0, 999) || out(time, 0, 100000) || out(payer, 0, 19) || out(payee, 0, 19) || payer == payee
                || out(amount, 1, 100000) || out(sort, 0, 3)) return BAD;
        if (byTag(tag) != null) return STATE;
        if (pays.size() == 120) return FULL;
        pays.add(new Pay(pays.size(), tag, time, payer, payee, amount, sort));
        return pays.size() - 1;
    }

    int batch(int s, int i, int n) {
        if (out(s, 0, 7) || out(n, 1, 20)) return BAD;
        if (papers[s] == null) return find(1);
        List<Integer> it = papers[s].items;
        if (i < 0 || (long) i + 6L * n > it.size()) return find(2);
        int before = pays.size();
        for (int k = i; k < i + 6 * n; k += 6)
            pay(it.get(k), it.get(k + 1), it.get(k + 2), it.get(k + 3), it.get(k + 4), it.get(k + 5));
        return fine(pays.size() - before);
    }

    int told(int tag, int what) {
        Pay p = byTag(tag);
        if (p == null || out(what, 0, 6)) return BAD;
        return new int[] {p.number, p.time, p.payer, p.payee, p.amount, p.sort, verdicts.getOrDefault(tag, NONE)}[what];
    }

    List<Pay> ordered() {
        List<Pay> all = new ArrayList<>(pays);
        all.sort(Comparator.comparingInt(Pay::time).thenComparingInt(Pay::tag));
        return all;
    }

    int order(int i) { return out(i, 0, pays.size() - 1) ? NONE : ordered().get(i).tag; }

    int mark(int who, int on) {
        if (out(who, 0, 19) || out(on, 0, 1)) return BAD;
        return (on == 1 ? marked.add(who) : marked.remove(who)) ? 1 : 0;
    }

    List<Pay> ahead(Pay p, int known) {
        List<Pay> all = ordered();
        List<Pay> these = new ArrayList<>();
        for (Pay q : all.subList(0, all.indexOf(p))) if (known == 0 || q.number <= p.number) these.add(q);
        return these;
    }

    int fades(int v, int time) {
        for (int k = 1; k <= 40; k++) if ((long) k * decay <= time) v = v - v / 4;
        return v;
    }

    int profileOf(Pay p, int known) {
        int v = 0;
        Pay before = null;
        for (Pay q : ahead(p, known)) {
            if (q.payer != p.payer) continue;
            if (before != null) v = fades(v, q.time - before.time);
            v = v + (q.amount - v) / 4;
            before = q;
        }
        return before == null ? v : fades(v, p.time - before.time);
    }

    int farOf(Pay p, int known) {
        Set<Integer> here = new TreeSet<>(Set.of(p.payee));
        for (int d = 0; d <= 8; d++) {
            for (int who : here) if (marked.contains(who)) return d;
            Set<Integer> wider = new TreeSet<>(here);
            for (Pay q : ahead(p, known)) {
                if (here.contains(q.payer)) wider.add(q.payee);
                if (here.contains(q.payee)) wider.add(q.payer);
            }
            here = wider;
        }
        return 9;
    }

    int featureOf(Pay p, int f, int known, int amount) {
        List<Pay> mine = new ArrayList<>();
        int seen = 0, into = 0;
        for (Pay q : ahead(p, known)) {
            boolean late = q.time > p.time - window;
            if (late && q.payer == p.payer) mine.add(q);
            if (late && q.payee == p.payee) into++;
            if (q.payer == p.payer && q.payee == p.payee) seen++;
        }
        Set<Integer> payees = new TreeSet<>(Set.of(p.payee));
        int sum = 0;
        for (Pay q : mine) { payees.add(q.payee); sum += q.amount; }
        switch (f) {
            case 0: return amount;
            case 1: return p.sort;
            case 2: return p.time % 24;
            case 3: return mine.size();
            case 4: return sum;
            case 5: return payees.size();
            case 6: return seen;
            case 7: return amount * 100 / (profileOf(p, known) + 1);
            case 8: return farOf(p, known);
            default: return into;
        }
    }

    int feature(int tag, int f, int known) {
        Pay p = byTag(tag);
        return p == null || out(f, 0, 9) || out(known, 0, 1) ? BAD : featureOf(p, f, known, p.amount);
    }

    int profile(int tag, int known) {
        Pay p = byTag(tag);
        return p == null || out(known, 0, 1) ? BAD : profileOf(p, known);
    }

    // ---- rules
    int feed(long w, int n) {
        if (out(n, 1, 8)) return BAD;
        if (tape.size() + n > 600) return FULL;
        byte[] all = java.nio.ByteBuffer.allocate(8).putLong(w).array();
        for (int i = 8 - n; i < 8; i++) tape.add(all[i]);
        return tape.size();
    }

    static List<Token> tokens(String s) {
        List<Token> all = new ArrayList<>();
        java.util.regex.Matcher m = java.util.regex.Pattern.compile("[a-z]+|[0-9]+|[;<>=]|[ \\n]+|.", java.util.regex.Pattern.DOTALL).matcher(s);
        while (m.find()) {
            String t = m.group();
            char c = t.charAt(0);
            if (c == ' ' || c == '\n') continue;
            char type = c >= 'a' && c <= 'z' ? 'w' : c >= '0' && c <= '9' ? 'n' : ";<>=".indexOf(c) >= 0 ? 's' : '?';
            if (t.length() > 6) type = '?';
            all.add(new Token(t, m.start(), type));
        }
        all.add(new Token("", s.length(), 'e'));
        return all;
    }

    private List<Token> left;

    Token pop() { return left.remove(0); }

    int number(int a, int b) throws Fault {
        Token t = pop();
        if (t.type != 'n') throw new Fault(1, t.place);
        int v = Integer.parseInt(t.text);
        if (out(v, a, b)) throw new Fault(2, t.place);
        return v;
    }

    String word(String... allowed) throws Fault {
        Token t = pop();
        if (t.type == 'w' || t.type == 's') for (String a : allowed) if (a.equals(t.text)) return a;
        throw new Fault(1, t.place);
    }

    int rules() {
        StringBuilder b = new StringBuilder();
        for (byte c : tape) b.append((char) (c & 255));
        tape.clear();
        left = tokens(b.toString());
        List<Rule> told = new ArrayList<>();
        int[] limits = {100, 50, 10, 20};
        try {
            while (left.get(0).type != 'e') {
                int place = left.get(0).place;
                String w = word("window", "decay", "look", "block", "rule");
                int limit = List.of("window", "decay", "look", "block", "rule").indexOf(w);
                if (limit < 4) {
                    limits[limit] = number(limit < 2 ? 1 : 0, limit < 2 ? 100000 : 20000);
                    word(";");
                    continue;
                }
                if (told.size() == 12) throw new Fault(3, place);
                Rule r = new Rule(number(1, 1000), new ArrayList<>());
                word("if");
                while (true) {
                    int f = FEATURES.indexOf(word(FEATURES.toArray(new String[0])));
                    char sign = word("<", ">", "=").charAt(0);
                    r.tests.add(new Test(f, sign, number(0, 999999)));
                    place = left.get(0).place;
                    if (word("and", ";").equals(";")) break;
                    if (r.tests.size() == 4) throw new Fault(3, place);
                }
                told.add(r);
            }
        } catch (Fault f) {
            fault = f.number;
            return -1000100 - f.place;
        }
        rules = told;
        window = limits[0];
        decay = limits[1];
        look = limits[2];
        block = limits[3];
        return told.size();
    }

    int rule(int what) { return out(what, 0, 3) ? BAD : new int[] {window, decay, look, block}[what]; }

    int held(Pay p, int known, int amount) {
        int set = 0;
        for (int k = 0; k < rules.size(); k++) {
            boolean all = true;
            for (Test t : rules.get(k).tests) {
                int v = featureOf(p, t.feature, known, amount);
                all &= t.sign == '<' ? v < t.number : t.sign == '>' ? v > t.number : v == t.number;
            }
            if (all) set += 1 << k;
        }
        return set;
    }

    int weight(int set) {
        int sum = 0;
        for (int k = 0; k < rules.size(); k++) if ((set & 1 << k) != 0) sum += rules.get(k).weight;
        return sum;
    }

    int act(int score) { return score >= block ? 2 : score >= look ? 1 : 0; }

    int actOf(Pay p, int known) { return act(weight(held(p, known, p.amount))); }

    int score(Pay p) { return weight(held(p, 0, p.amount)); }

    int why(int set) {
        int a = act(weight(set));
        if (a == 0) return 0;
        int goal = a == 2 ? block : look;
        int best = -1;
        for (int s = 0; s < 4096; s++)
            if ((s & ~set) == 0 && weight(s) >= goal && (best < 0 || Integer.bitCount(s) < Integer.bitCount(best))) best = s;
        return best;
    }

    int judged(int tag, int known, int what) {
        Pay p = byTag(tag);
        if (p == null || out(known, 0, 1) || out(what, 0, 3)) return BAD;
        int set = held(p, known, p.amount);
        return what == 0 ? weight(set) : what == 1 ? act(weight(set)) : what == 2 ? set : why(set);
    }

    int would(int tag, int amount) {
        Pay p = byTag(tag);
        return p == null || out(amount, 1, 100000) ? BAD : act(weight(held(p, 0, amount)));
    }

    int acts(int what) {
        if (out(what, 0, 3)) return BAD;
        int n = 0;
        for (Pay p : pays) if (what == 3 ? actOf(p, 0) != actOf(p, 1) : actOf(p, 0) == 2 - what) n++;
        return n;
    }

    // ---- looks, verdicts
    int verdict(int tag, int v) {
        if (byTag(tag) == null || out(v, 0, 1)) return BAD;
        Integer before = verdicts.put(tag, v);
        return before == null ? NONE : before;
    }

    List<Pay> waiting() {
        List<Pay> all = new ArrayList<>();
        for (Pay p : ordered()) if (!verdicts.containsKey(p.tag) && actOf(p, 0) == 1) all.add(p);
        all.sort(Comparator.comparingLong((Pay p) -> -(long) p.amount * score(p)));
        return all;
    }

    int queue(int i) {
        List<Pay> all = waiting();
        return out(i, 0, all.size() - 1) ? NONE : all.get(i).tag;
    }

    int cost(int what, int v) {
        if (out(what, 0, 1) || out(v, 0, 100000)) return BAD;
        int before = what == 0 ? blockCost : lookCost;
        if (what == 0) blockCost = v; else lookCost = v;
        return before;
    }

    /** Scores are asked for once a call here, as the model's are slow. */
    long settingCost(List<int[]> known, int l, int b) {
        long sum = 0;
        for (int[] k : known) {
            if (k[0] >= b) sum += k[2] == 0 ? blockCost : 0;
            else if (k[0] >= l) sum += lookCost;
            else if (k[2] == 1) sum += k[1];
        }
        return sum;
    }

    List<int[]> rated() {
        List<int[]> known = new ArrayList<>();
        for (Pay p : pays) if (verdicts.containsKey(p.tag)) known.add(new int[] {score(p), p.amount, verdicts.get(p.tag)});
        return known;
    }

    long setting(int l, int b) {
        return out(l, 0, 20000) || out(b, 0, 20000) || l > b ? BAD : settingCost(rated(), l, b);
    }

    long bestSetting(int what) {
        if (out(what, 0, 2)) return BAD;
        List<int[]> known = rated();
        TreeSet<Integer> bounds = new TreeSet<>(Set.of(0));
        for (int[] k : known) bounds.add(k[0] + 1);
        long[] best = null;
        for (int l : bounds) {
            for (int b : bounds) {
                if (l > b) continue;
                long c = settingCost(known, l, b);
                if (best == null || c < best[2]) best = new long[] {l, b, c};
            }
        }
        return best[what];
    }

    long setCost(int set, int odd) {
        long sum = 0;
        for (Pay p : pays) {
            if (!verdicts.containsKey(p.tag) || p.tag % 2 != odd) continue;
            boolean caught = (held(p, 0, p.amount) & set) != 0;
            if (verdicts.get(p.tag) == 1) sum += caught ? 0 : p.amount;
            else sum += caught ? blockCost : 0;
        }
        return sum;
    }

    int best() {
        List<int[]> known = new ArrayList<>();
        for (Pay p : pays)
            if (verdicts.containsKey(p.tag) && p.tag % 2 == 0)
                known.add(new int[] {held(p, 0, p.amount), verdicts.get(p.tag), p.amount});
        int best = 0;
        long least = Long.MAX_VALUE;
        for (int few = 0; few <= rules.size(); few++) {
            for (int set = 0; set < 1 << rules.size(); set++) {
                if (Integer.bitCount(set) != few) continue;
                long sum = 0;
                for (int[] k : known) {
                    if ((k[0] & set) != 0) sum += k[1] == 0 ? blockCost : 0;
                    else sum += k[1] == 1 ? k[2] : 0;
                }
                if (sum < least) { least = sum; best = set; }
            }
        }
        return best;
    }

    long learnt(int what) {
        if (out(what, 0, 3)) return BAD;
        int set = best();
        return what == 0 ? set : what == 1 ? setCost(set, 0) : what == 2 ? setCost(set, 1) : setCost((1 << rules.size()) - 1, 1);
    }

    long costs(int set, int odd) {
        return out(set, 0, (1 << rules.size()) - 1) || out(odd, 0, 1) ? BAD : setCost(set, odd);
    }

    // ---- drift, counts
    static BigInteger factorial(int n) { return n < 2 ? BigInteger.ONE : factorial(n - 1).multiply(BigInteger.valueOf(n)); }

    static long ways(int n, int k) {
        return k < 0 || k > n ? 0 : factorial(n).divide(factorial(k)).divide(factorial(n - k)).longValueExact();
    }

    long drift(int sort, int from, int middle, int to, int what) {
        if (out(sort, 0, 3) || out(from, 0, 200000) || out(middle, 0, 200000) || out(to, 0, 200000)
                || from > middle || middle > to || out(what, 0, 5)) return BAD;
        List<Boolean> both = new ArrayList<>();
        int n1 = 0, n2 = 0, x = 0, y = 0;
        for (Pay p : pays) {
            if (p.time >= from && p.time < middle) { n1++; x += p.sort == sort ? 1 : 0; both.add(p.sort == sort); }
            if (p.time >= middle && p.time < to) { n2++; y += p.sort == sort ? 1 : 0; both.add(p.sort == sort); }
        }
        int n = n1 + n2;
        if (n > 40) return FULL;
        if (what > 0) return new long[] {0, ways(n, n1), n1, x, n2, y}[what];
        return n <= 14 ? waysOneByOne(both, n1, Math.abs(x * n2 - y * n1)) : waysByCounts(x + y, n1, n2, Math.abs(x * n2 - y * n1));
    }

    static long waysOneByOne(List<Boolean> both, int n1, int seen) {
        int n = both.size();
        long found = 0;
        for (int first = 0; first < 1 << n; first++) {
            if (Integer.bitCount(first) != n1) continue;
            int x = 0, y = 0;
            for (int i = 0; i < n; i++) {
                if (!both.get(i)) continue;
                if ((first & 1 << i) != 0) x++; else y++;
            }
            if (Math.abs(x * (n - n1) - y * n1) >= seen) found++;
        }
        return found;
    }

    static long waysByCounts(int all, int n1, int n2, int seen) {
        long found = 0;
        for (int x = 0; x <= n1; x++) {
            if (x > all) break;
            if (Math.abs(x * n2 - (all - x) * n1) >= seen) found += ways(all, x) * ways(n1 + n2 - all, n1 - x);
        }
        return found;
    }

    int counted(int from, int to, int payer) {
        if (out(from, 0, 200000) || out(to, 0, 200000) || from > to || out(payer, 0, 19)) return BAD;
        int n = 0;
        for (Pay p : pays) if (p.payer == payer && p.time >= from && p.time < to) n++;
        return n >= 1 && n <= 4 ? NONE : n;
    }

    // ---- asked: the kinds are classes here, so that Java itself tells which body begins
    interface Asked {
        Model model();
        Pay pay();
        default int worth() { model().trail(10); return pay().amount; }
        default int sign() { model().trail(20); return pay().sort; }
    }

    record Plain(Model model, Pay pay) implements Asked { }

    static class Held implements Asked {
        final Model model;
        final Pay pay;
        Held(Model model, Pay pay) { this.model = model; this.pay = pay; }
        public Model model() { return model; }
        public Pay pay() { return pay; }
        public int worth() { model.trail(11); return Asked.super.worth() - model.score(pay); }
        public int sign() { model.trail(21); return Asked.super.sign() + worth(); }
    }

    static final class Stopped extends Held {
        Stopped(Model model, Pay pay) { super(model, pay); }
        public int worth() { model.trail(12); return super.worth() / 2; }
        public int sign() { model.trail(22); return super.sign() + 100; }
    }

    record Cleared(Model model, Pay pay) implements Asked {
        public int worth() { model.trail(13); return Asked.super.worth() + sign(); }
        public int sign() { model.trail(23); return Asked.super.sign() + pay.payer; }
    }

    void trail(int body) { if (trace.size() < 16) trace.add(body); }

    Asked asked(Pay p) {
        if (Integer.valueOf(0).equals(verdicts.get(p.tag))) return new Cleared(this, p);
        int a = actOf(p, 0);
        return a == 2 ? new Stopped(this, p) : a == 1 ? new Held(this, p) : new Plain(this, p);
    }

    int kind(int tag) {
        Pay p = byTag(tag);
        if (p == null) return BAD;
        Asked a = asked(p);
        return a instanceof Cleared ? 3 : a instanceof Stopped ? 2 : a instanceof Held ? 1 : 0;
    }

    int as(int tag, int kind) {
        Pay p = byTag(tag);
        if (p == null || out(kind, 0, 3)) return BAD;
        Class<?> wanted = List.of(Asked.class, Held.class, Stopped.class, Cleared.class).get(kind);
        return wanted.isInstance(asked(p)) ? fine(p.number) : find(3);
    }

    int ask(int tag, int what) {
        Pay p = byTag(tag);
        if (p == null || out(what, 0, 1)) return BAD;
        trace.clear();
        return what == 0 ? asked(p).worth() : asked(p).sign();
    }

    int trace(int i) { return out(i, 0, trace.size() - 1) ? NONE : trace.get(i); }

    int count(int what) {
        int there = 0, odd = 0;
        for (Paper p : papers) if (p != null) there++;
        for (int v : verdicts.values()) odd += v;
        if (out(what, 0, 7)) return BAD;
        return new int[] {there, pays.size(), rules.size(), verdicts.size(), odd, marked.size(),
                what == 6 ? waiting().size() : 0, tape.size()}[what];
    }
}
