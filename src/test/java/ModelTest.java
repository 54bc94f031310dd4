import java.util.Random;

/** Random runs of 512 calls, each answer held against the model's; the seeds are fixed, so a run can be told again. */
public final class ModelTest {
    private static final int CALLS = 512;
    private static final String[] NAMES = {"sheet", "set", "copy", "drop", "pay", "batch", "told", "order", "mark", "feature",
        "profile", "text", "rules", "fault", "rule", "judged", "would", "acts", "verdict", "queue", "cost", "setting",
        "bestSetting", "learnt", "costs", "drift", "counted", "kind", "as", "ask", "trace", "count", "status", "feed"};

    private final Random r;
    private final OddPayments x = new OddPayments();
    private final Model m = new Model();
    private final int tags, times, people, amounts;
    private int calls = 0;
    private final StringBuilder story = new StringBuilder();
    private boolean right = true;

    private ModelTest(long seed) {
        r = new Random(seed);
        tags = pick(12, 60, 200, 1000);
        times = pick(5, 60, 300, 3000, 100001);
        people = pick(3, 5, 9, 20);
        amounts = pick(10, 300, 100000);
    }

    private int pick(int... of) { return of[r.nextInt(of.length)]; }

    private int upTo(int most) { return r.nextInt(most + 1); }

    /** Mostly within the bounds, now and then one beyond an end, seldom anything. */
    private int near(int least, int most) {
        int k = r.nextInt(60);
        if (k == 0) return least - 1;
        if (k == 1) return most + 1;
        if (k == 2) return r.nextInt(3) == 0 ? pick(Integer.MIN_VALUE, Integer.MAX_VALUE, -1, 0) : r.nextInt();
        return least + r.nextInt(most - least + 1);
    }

    private int tag() {
        if (!m.pays.isEmpty() && r.nextInt(12) != 0) return m.pays.get(r.nextInt(m.pays.size())).tag();
        return near(0, tags - 1);
    }

    private int time() { return near(0, times - 1); }

    /** A step of several calls may go beyond the last one that the document speaks of: what those answer is free. */
    private void due(String call, long got, long want) {
        calls++;
        if (calls > CALLS) return;
        if (story.length() < 200000) story.append(call).append(" -> ").append(got).append('\n');
        if (got != want && right) {
            right = false;
            System.out.println(story + call + " answered " + got + ", due is " + want);
        }
    }

    private static String told(String name, long... a) {
        StringBuilder b = new StringBuilder(name).append('(');
        for (int i = 0; i < a.length; i++) b.append(i > 0 ? ", " : "").append(a[i]);
        return b.append(')').toString();
    }

    private void feedAll(String s) {
        for (int i = 0; i < s.length(); ) {
            int n = Math.min(s.length() - i, r.nextInt(4) == 0 ? 1 + r.nextInt(8) : 8);
            long w = r.nextInt(3) == 0 ? r.nextLong() : 0;
            for (int k = 0; k < n; k++) w = w << 8 | s.charAt(i + k) & 255;
            due(told("feed", w, n), x.feed(w, n), m.feed(w, n));
            i += n;
        }
    }

    private String test() {
        String f = Model.FEATURES.get(r.nextInt(10));
        int n = pick(0, 1, 2, 3, upTo(9), upTo(30), upTo(400), upTo(amounts));
        String gap = r.nextInt(4) == 0 ? " " : "";
        return f + gap + "<>=".charAt(r.nextInt(3)) + gap + n;
    }

    private String statement() {
        switch (r.nextInt(9)) {
            case 0: return "window " + pick(1, 5, 50, 500, 100000, 1 + upTo(times)) + ";";
            case 1: return "decay " + pick(1, 3, 10, 70, 100000, 1 + upTo(times)) + ";";
            case 2: return "look " + pick(0, 1, 3, 8, upTo(40)) + ";";
            case 3: return "block " + pick(0, 2, 6, 15, upTo(60)) + ";";
            default:
                StringBuilder b = new StringBuilder("rule " + (1 + pick(upTo(8), upTo(20), upTo(999))) + " if " + test());
                int more = r.nextInt(3) == 0 ? r.nextInt(5) : 0;
                for (int i = 0; i < more; i++) b.append(" and ").append(test());
                return b.append(';').append(r.nextInt(5) == 0 ? "\n" : "").toString();
        }
    }

    private String text() {
        StringBuilder b = new StringBuilder();
        int n = pick(0, 3, 6, 12, 16);
        for (int i = 0; i < n; i++) {
            String s = statement();
            if (b.length() + s.length() <= 600 || r.nextInt(20) == 0) b.append(s);
        }
        int faults = r.nextInt(3) == 0 ? 1 + r.nextInt(2) : 0;
        for (int i = 0; i < faults; i++) {
            String put = new String[] {";", "and", "rule", " ", "0", "9999999", "x", "windows", "\t", "\u00e9", "if", "=", "1 ", "A", "\u0000", ""}[r.nextInt(16)];
            int at = r.nextInt(b.length() + 1);
            int cut = Math.min(b.length() - at, r.nextInt(4));
            b.replace(at, at + cut, put);
        }
        return b.toString();
    }

    private void oneCall() {
        String name = NAMES[r.nextInt(NAMES.length)];
        if (r.nextInt(4) == 0) name = "pay";
        int a, b, c, d, e, f;
        switch (name) {
            case "sheet": a = near(0, 7); b = near(0, 2); c = pick(near(0, 120), near(0, 6), 120); due(told(name, a, b, c), x.sheet(a, b, c), m.sheet(a, b, c)); break;
            case "set": a = near(0, 7); b = near(0, 20); c = pick(r.nextInt(), upTo(300), upTo(70000), -1); due(told(name, a, b, c), x.set(a, b, c), m.set(a, b, c)); break;
            case "copy": a = near(0, 7); b = near(0, 9); c = near(0, 7); d = near(0, 9); e = near(0, 12); due(told(name, a, b, c, d, e), x.copy(a, b, c, d, e), m.copy(a, b, c, d, e)); break;
            case "drop": if (r.nextInt(3) == 0) { a = near(0, 7); due(told(name, a), x.drop(a), m.drop(a)); } break;
            case "pay": a = near(0, tags - 1); b = time(); c = near(0, people - 1); d = near(0, people - 1); e = near(1, amounts); f = near(0, 3);
                due(told(name, a, b, c, d, e, f), x.pay(a, b, c, d, e, f), m.pay(a, b, c, d, e, f)); break;
            case "batch": fill(); break;
            case "told": a = tag(); b = near(0, 6); due(told(name, a, b), x.told(a, b), m.told(a, b)); break;
            case "order": a = near(0, m.pays.size()); due(told(name, a), x.order(a), m.order(a)); break;
            case "mark": a = near(0, people - 1); b = near(0, 1); due(told(name, a, b), x.mark(a, b), m.mark(a, b)); break;
            case "feature": a = tag(); b = near(0, 9); c = near(0, 1); due(told(name, a, b, c), x.feature(a, b, c), m.feature(a, b, c)); break;
            case "profile": a = tag(); b = near(0, 1); due(told(name, a, b), x.profile(a, b), m.profile(a, b)); break;
            case "text": if (r.nextInt(4) == 0) { feedAll(text()); due("rules()", x.rules(), m.rules()); due("fault()", x.fault(), m.fault); } break;
            case "rules": if (r.nextInt(12) == 0) due("rules()", x.rules(), m.rules()); break;
            case "fault": due("fault()", x.fault(), m.fault); break;
            case "rule": a = near(0, 3); due(told(name, a), x.rule(a), m.rule(a)); break;
            case "judged": a = tag(); b = near(0, 1); c = near(0, 3); due(told(name, a, b, c), x.judged(a, b, c), m.judged(a, b, c)); break;
            case "would": a = tag(); b = near(1, amounts); due(told(name, a, b), x.would(a, b), m.would(a, b)); break;
            case "acts": a = near(0, 3); due(told(name, a), x.acts(a), m.acts(a)); break;
            case "verdict": a = tag(); b = near(0, 1); due(told(name, a, b), x.verdict(a, b), m.verdict(a, b)); break;
            case "queue": a = pick(near(0, 3), near(0, 20)); due(told(name, a), x.queue(a), m.queue(a)); break;
            case "cost": a = near(0, 1); b = pick(near(0, 60), near(0, 100000)); due(told(name, a, b), x.cost(a, b), m.cost(a, b)); break;
            default: laterCall(name);
        }
    }

    private void laterCall(String name) {
        int a, b, c, d, e;
        switch (name) {
            case "setting": a = pick(near(0, 20), near(0, 20000)); b = pick(near(0, 50), near(0, 20000)); due(told(name, a, b), x.setting(a, b), m.setting(a, b)); break;
            case "bestSetting": a = near(0, 2); due(told(name, a), x.bestSetting(a), m.bestSetting(a)); break;
            case "learnt": a = near(0, 3); due(told(name, a), x.learnt(a), m.learnt(a)); break;
            case "costs": a = near(0, (1 << m.rules.size()) - 1); b = near(0, 1); due(told(name, a, b), x.costs(a, b), m.costs(a, b)); break;
            case "drift":
                a = near(0, 3); b = time(); c = b + upTo(times); d = c + upTo(times); e = near(0, 5);
                if (r.nextInt(3) == 0 && !m.pays.isEmpty()) { b = m.pays.get(0).time(); c = b + upTo(times / 3 + 1); d = c + upTo(times / 3 + 1); }
                due(told(name, a, b, c, d, e), x.drift(a, b, c, d, e), m.drift(a, b, c, d, e)); break;
            case "counted": a = time() / 2; b = pick(time(), 200000, times); c = near(0, people - 1); due(told(name, a, b, c), x.counted(a, b, c), m.counted(a, b, c)); break;
            case "kind": a = tag(); due(told(name, a), x.kind(a), m.kind(a)); break;
            case "as": a = tag(); b = near(0, 3); due(told(name, a, b), x.as(a, b), m.as(a, b)); break;
            case "ask": a = tag(); b = near(0, 1); due(told(name, a, b), x.ask(a, b), m.ask(a, b)); break;
            case "trace": a = near(0, 7); due(told(name, a), x.trace(a), m.trace(a)); break;
            case "count": a = near(0, 7); due(told(name, a), x.count(a), m.count(a)); break;
            case "status": due("status()", x.status(), m.status); break;
            case "feed": if (r.nextInt(8) == 0) { long w = r.nextLong(); a = near(1, 8); due(told("feed", w, a), x.feed(w, a), m.feed(w, a)); } break;
            default: throw new IllegalStateException(name);
        }
    }

    private void fill() {
        int s = near(0, 7);
        int from = near(0, 10);
        int n = near(1, pick(2, 4, 20));
        if (s >= 0 && s <= 7 && m.papers[s] != null && r.nextInt(4) != 0) {
            int size = m.papers[s].items.size();
            for (int k = 0; k + 6 <= size - Math.max(from, 0) && k < 12; k += 6) {
                int[] items = {near(0, tags - 1), time(), near(0, people - 1), near(0, people - 1), near(1, amounts), near(0, 3)};
                for (int i = 0; i < 6; i++) {
                    int at = Math.max(from, 0) + k + i;
                    due(told("set", s, at, items[i]), x.set(s, at, items[i]), m.set(s, at, items[i]));
                }
            }
        }
        due(told("batch", s, from, n), x.batch(s, from, n), m.batch(s, from, n));
    }

    private boolean run() {
        if (r.nextInt(2) == 0) {
            feedAll(text());
            due("rules()", x.rules(), m.rules());
        }
        while (calls < CALLS && right) oneCall();
        return right;
    }

    public static void main(String[] args) {
        int runs = args.length > 0 ? Integer.parseInt(args[0]) : 300;
        long first = args.length > 1 ? Long.parseLong(args[1]) : 1;
        for (long seed = first; seed < first + runs; seed++) {
            if (!new ModelTest(seed).run()) {
                System.out.println("seed " + seed);
                System.exit(1);
            }
        }
        System.out.println(runs + " random runs are as the model says");
    }
}
