import java.util.ArrayList;
import java.util.List;
import java.util.function.ToLongFunction;

/** What is refused, or found, changes nothing but status(): each refused call on one of two like objects, which then answer alike. */
final class RefusalEdges {
    private static final String WORDS = "What is refused, or found, changes nothing but status()";
    private static final int SAME = -1, LAID = 2;

    private final Edges e;
    private boolean packed = false;
    private List<Long> untouched = new ArrayList<>();

    RefusalEdges(Edges e) {
        this.e = e;
    }

    void run() {
        untouched = answers(scene());
        sheets();
        places();
        payments();
        rules();
        verdicts();
        asked();
        packed = true;
        untouched = answers(fullScene());
        fullOnes();
    }

    // ---- two scenes

    /** Something of everything: what each call could spoil is there. Its last finding is PLACE. */
    private static OddPayments scene() {
        OddPayments x = new OddPayments();
        Due.read(x, "window 40;decay 9;look 3;block 7;rule 3 if sort=1;rule 4 if amount>60;rule 2 if count>0;");
        Due.read(x, "look 20001;");
        x.sheet(0, 2, 12);
        Edges.lay(x, 0, 0, 700, 90, 3, 4, 80, 1, 701, 91, 4, 5, 81, 2);
        x.sheet(1, 0, 6);
        Edges.lay(x, 1, 0, 101, 92, 5, 6, 82, 3);
        x.sheet(2, 1, 6);
        Edges.lay(x, 2, 0, 702, 93, 6, 7, 83, 0);
        x.sheet(3, 2, 0);
        int[][] pays = {{10, 50, 0, 1, 70, 1}, {11, 60, 0, 2, 50, 1}, {12, 55, 1, 2, 40, 1}, {13, 40, 2, 3, 90, 0}, {14, 60, 0, 1, 30, 2}, {0, 70, 9, 8, 61, 3}, {999, 1, 9, 8, 10, 1}};
        for (int[] p : pays) {
            x.pay(p[0], p[1], p[2], p[3], p[4], p[5]);
        }
        x.verdict(10, 1);
        x.verdict(13, 0);
        x.mark(3, 1);
        x.mark(19, 1);
        x.cost(0, 33);
        x.cost(1, 4);
        x.ask(10, 1);
        Due.feed(x, "block 5;");
        x.set(3, 0, 1);
        return x;
    }

    /** 120 payments, and 600 bytes on the tape. */
    private static OddPayments fullScene() {
        OddPayments x = new OddPayments();
        x.sheet(0, 2, 12);
        Edges.lay(x, 0, 0, 700, 90, 3, 4, 80, 1, 701, 91, 4, 5, 81, 2);
        for (int i = 0; i < 120; i++) {
            x.pay(i, i, i % 20, (i + 1) % 20, i + 1, i % 4);
        }
        Due.feed(x, " ".repeat(593) + "look 0;");
        x.set(0, 12, 0);
        return x;
    }

    // ---- all that can be asked of an object

    /** The last questions change it, so an object answers once. */
    private List<Long> answers(OddPayments x) {
        List<Long> row = new ArrayList<>();
        add(row, x.fault(), x.trace(0), x.trace(1), x.trace(5), x.trace(6), x.acts(0), x.acts(1), x.acts(2), x.acts(3));
        for (int what = 0; what < 8; what++) {
            add(row, x.count(what));
        }
        add(row, Edges.limits(x));
        for (int i = 0; i <= (packed ? 120 : 8); i++) {
            add(row, x.order(i));
        }
        for (int tag : packed ? new int[] {0, 119, 120, 700} : new int[] {0, 10, 11, 12, 13, 14, 999, 1, 500}) {
            add(row, Edges.told(x, tag));
            add(row, x.judged(tag, 0, 2), x.judged(tag, 1, 0), x.feature(tag, 8, 0), x.profile(tag, 0), x.kind(tag));
        }
        add(row, x.queue(0), x.queue(1), x.queue(2), x.setting(0, 5), x.bestSetting(2), x.learnt(1), x.learnt(2), x.cost(0, 1), x.cost(1, 1));
        add(row, x.rules());
        add(row, Edges.limits(x));
        add(row, x.count(2), x.fault());
        addSheets(row, x);
        return row;
    }

    /** What a sheet holds is told by its payments, its lane by what is left of 70000, its length by drop. */
    private void addSheets(List<Long> row, OddPayments x) {
        for (int sheet = 0; sheet < 8; sheet++) {
            add(row, x.batch(sheet, 0, sheet == 0 ? 2 : 1), x.set(sheet, 0, 70000), x.drop(sheet));
        }
        for (int tag : new int[] {700, 701, 101, 702}) {
            add(row, Edges.told(x, tag));
        }
    }

    private static void add(List<Long> row, long... answers) {
        for (long a : answers) {
            row.add(a);
        }
    }

    /** status is what status() tells behind the call: as it was, or the number of a finding. */
    private void refused(String call, long answer, int status, ToLongFunction<OddPayments> asks) {
        OddPayments x = packed ? fullScene() : scene();
        e.is(call, asks.applyAsLong(x), answer);
        e.is(call + ", then status()", x.status(), status == SAME ? LAID : status);
        List<Long> now = answers(x);
        for (int i = 0; i < now.size(); i++) {
            e.is(call + ", then answer " + i, now.get(i), untouched.get(i));
        }
    }

    private void bad(String call, ToLongFunction<OddPayments> asks) {
        refused(call, Due.BAD, SAME, asks);
    }

    private void none(String call, ToLongFunction<OddPayments> asks) {
        refused(call, Due.NONE, SAME, asks);
    }

    // ---- refused calls

    private void sheets() {
        e.of(2, WORDS);
        bad("sheet(-1, 0, 1)", x -> x.sheet(-1, 0, 1));
        bad("sheet(8, 0, 1)", x -> x.sheet(8, 0, 1));
        bad("sheet(0, -1, 1)", x -> x.sheet(0, -1, 1));
        bad("sheet(0, 3, 1)", x -> x.sheet(0, 3, 1));
        bad("sheet(0, 0, 121)", x -> x.sheet(0, 0, 121));
        bad("sheet(4, 0, 121)", x -> x.sheet(4, 0, 121));
        refused("sheet(0, 0, -1)", Due.SIZE, 4, x -> x.sheet(0, 0, -1));
        refused("sheet(4, 0, -1)", Due.SIZE, 4, x -> x.sheet(4, 0, -1));
        e.of(3, WORDS);
        bad("set(-1, 0, 1)", x -> x.set(-1, 0, 1));
        bad("set(8, 0, 1)", x -> x.set(8, 0, 1));
        refused("set(4, 0, 1)", Due.NULL, 1, x -> x.set(4, 0, 1));
        refused("set(0, -1, 1)", Due.PLACE, 2, x -> x.set(0, -1, 1));
        refused("set(0, 12, 1)", Due.PLACE, 2, x -> x.set(0, 12, 1));
        e.of(5, WORDS);
        bad("drop(-1)", x -> x.drop(-1));
        bad("drop(8)", x -> x.drop(8));
        refused("drop(4)", Due.NULL, 1, x -> x.drop(4));
    }

    private void places() {
        e.of(4, WORDS);
        bad("copy(8, 0, 0, 0, 1)", x -> x.copy(8, 0, 0, 0, 1));
        bad("copy(0, 0, -1, 0, 1)", x -> x.copy(0, 0, -1, 0, 1));
        refused("copy(0, 0, 4, 0, 1)", Due.NULL, 1, x -> x.copy(0, 0, 4, 0, 1));
        refused("copy(4, 0, 0, 0, 1)", Due.NULL, 1, x -> x.copy(4, 0, 0, 0, 1));
        refused("copy(0, 0, 1, 0, 1)", Due.STORE, 5, x -> x.copy(0, 0, 1, 0, 1));
        refused("copy(2, 0, 1, 0, 6)", Due.STORE, 5, x -> x.copy(2, 0, 1, 0, 6));
        refused("copy(0, -1, 0, 0, 2)", Due.PLACE, 2, x -> x.copy(0, -1, 0, 0, 2));
        refused("copy(0, 6, 0, -1, 2)", Due.PLACE, 2, x -> x.copy(0, 6, 0, -1, 2));
        refused("copy(0, 6, 0, 0, -1)", Due.PLACE, 2, x -> x.copy(0, 6, 0, 0, -1));
        refused("copy(0, 6, 0, 0, 7): not even the first six", Due.PLACE, 2, x -> x.copy(0, 6, 0, 0, 7));
        refused("copy(0, 0, 0, 6, 7): not even the first six", Due.PLACE, 2, x -> x.copy(0, 0, 0, 6, 7));
        refused("copy(0, 0, 3, 0, 1)", Due.PLACE, 2, x -> x.copy(0, 0, 3, 0, 1));
        e.of(7, WORDS);
        bad("batch(-1, 0, 1)", x -> x.batch(-1, 0, 1));
        bad("batch(8, 0, 1)", x -> x.batch(8, 0, 1));
        bad("batch(0, 0, 0)", x -> x.batch(0, 0, 0));
        bad("batch(0, 0, 21)", x -> x.batch(0, 0, 21));
        refused("batch(4, 0, 1)", Due.NULL, 1, x -> x.batch(4, 0, 1));
        refused("batch(0, -1, 1)", Due.PLACE, 2, x -> x.batch(0, -1, 1));
        refused("batch(0, 0, 3): not even the first two", Due.PLACE, 2, x -> x.batch(0, 0, 3));
        refused("batch(0, 6, 2): not even the first", Due.PLACE, 2, x -> x.batch(0, 6, 2));
        refused("batch(0, 7, 1)", Due.PLACE, 2, x -> x.batch(0, 7, 1));
    }

    private void payments() {
        e.of(6, WORDS);
        bad("pay, tag -1", x -> x.pay(-1, 5, 0, 1, 1, 0));
        bad("pay, tag 1000", x -> x.pay(1000, 5, 0, 1, 1, 0));
        bad("pay, time -1", x -> x.pay(1, -1, 0, 1, 1, 0));
        bad("pay, time 100001", x -> x.pay(1, 100001, 0, 1, 1, 0));
        bad("pay, payer -1", x -> x.pay(1, 5, -1, 1, 1, 0));
        bad("pay, payer 20", x -> x.pay(1, 5, 20, 1, 1, 0));
        bad("pay, payee -1", x -> x.pay(1, 5, 1, -1, 1, 0));
        bad("pay, payee 20", x -> x.pay(1, 5, 1, 20, 1, 0));
        bad("pay, alike", x -> x.pay(1, 5, 1, 1, 1, 0));
        bad("pay, amount 0", x -> x.pay(1, 5, 0, 1, 0, 0));
        bad("pay, amount 100001", x -> x.pay(1, 5, 0, 1, 100001, 0));
        bad("pay, sort -1", x -> x.pay(1, 5, 0, 1, 1, -1));
        bad("pay, sort 4", x -> x.pay(1, 5, 0, 1, 1, 4));
        refused("pay, doubled", Due.STATE, SAME, x -> x.pay(10, 5, 7, 8, 1000, 3));
        refused("pay, the same again", Due.STATE, SAME, x -> x.pay(10, 50, 0, 1, 70, 1));
        e.of(8, WORDS);
        bad("told(1, 0)", x -> x.told(1, 0));
        bad("told(10, 7)", x -> x.told(10, 7));
        e.of(9, WORDS);
        none("order(7)", x -> x.order(7));
        none("order(-1)", x -> x.order(-1));
        e.of(10, WORDS);
        bad("mark(20, 1)", x -> x.mark(20, 1));
        bad("mark(-1, 1)", x -> x.mark(-1, 1));
        bad("mark(3, 2)", x -> x.mark(3, 2));
        bad("mark(3, -1)", x -> x.mark(3, -1));
        bad("mark(4, 2)", x -> x.mark(4, 2));
        e.of(11, WORDS);
        bad("feature(10, 10, 0)", x -> x.feature(10, 10, 0));
        bad("feature(10, 0, 2)", x -> x.feature(10, 0, 2));
        e.of(12, WORDS);
        bad("profile(10, 2)", x -> x.profile(10, 2));
    }

    private void rules() {
        e.of(13, WORDS);
        bad("feed('x', 0)", x -> x.feed('x', 0));
        bad("feed('x', 9)", x -> x.feed('x', 9));
        bad("feed('x', -1)", x -> x.feed('x', -1));
        e.of(16, WORDS);
        bad("rule(4)", x -> x.rule(4));
        e.of(17, WORDS);
        bad("judged(10, 2, 0)", x -> x.judged(10, 2, 0));
        bad("judged(10, 0, 4)", x -> x.judged(10, 0, 4));
        e.of(18, WORDS);
        bad("would(10, 0)", x -> x.would(10, 0));
        bad("would(10, 100001)", x -> x.would(10, 100001));
        e.of(18, "if its amount were another one");
        refused("would(10, 1) is no refusal, but changes nothing either", 1, SAME, x -> x.would(10, 1));
        e.of(19, WORDS);
        bad("acts(4)", x -> x.acts(4));
    }

    private void verdicts() {
        e.of(20, WORDS);
        bad("verdict(1, 0)", x -> x.verdict(1, 0));
        bad("verdict(10, 2)", x -> x.verdict(10, 2));
        bad("verdict(10, -1)", x -> x.verdict(10, -1));
        bad("verdict(11, 2)", x -> x.verdict(11, 2));
        e.of(21, WORDS);
        none("queue(9)", x -> x.queue(9));
        e.of(22, WORDS);
        bad("cost(2, 1)", x -> x.cost(2, 1));
        bad("cost(-1, 1)", x -> x.cost(-1, 1));
        bad("cost(0, -1)", x -> x.cost(0, -1));
        bad("cost(0, 100001)", x -> x.cost(0, 100001));
        bad("cost(1, -1)", x -> x.cost(1, -1));
        bad("cost(1, 100001)", x -> x.cost(1, 100001));
        e.of(23, WORDS);
        bad("setting(2, 1)", x -> x.setting(2, 1));
        e.of(24, WORDS);
        bad("bestSetting(3)", x -> x.bestSetting(3));
        e.of(25, WORDS);
        bad("learnt(4)", x -> x.learnt(4));
        e.of(26, WORDS);
        bad("costs(8, 0)", x -> x.costs(8, 0));
    }

    private void asked() {
        e.of(27, WORDS);
        bad("drift(4, 0, 1, 2, 0)", x -> x.drift(4, 0, 1, 2, 0));
        e.of(28, WORDS);
        bad("counted(2, 1, 0)", x -> x.counted(2, 1, 0));
        none("counted(0, 100, 0)", x -> x.counted(0, 100, 0));
        e.of(29, WORDS);
        bad("kind(1)", x -> x.kind(1));
        e.of(30, WORDS);
        bad("as(1, 0)", x -> x.as(1, 0));
        bad("as(10, 4)", x -> x.as(10, 4));
        bad("as(10, -1)", x -> x.as(10, -1));
        refused("as(10, 3)", Due.KIND, 3, x -> x.as(10, 3));
        e.of(31, WORDS);
        bad("ask(1, 0)", x -> x.ask(1, 0));
        bad("ask(10, 2)", x -> x.ask(10, 2));
        bad("ask(10, -1)", x -> x.ask(10, -1));
        e.of(32, WORDS);
        none("trace(6)", x -> x.trace(6));
        e.of(33, WORDS);
        bad("count(8)", x -> x.count(8));
    }

    private void fullOnes() {
        e.of(6, WORDS);
        refused("pay, the 121st", Due.FULL, SAME, x -> x.pay(500, 5, 0, 1, 1, 0));
        refused("pay, the 121st, doubled", Due.STATE, SAME, x -> x.pay(5, 5, 0, 1, 1, 0));
        bad("pay, the 121st, a bad one", x -> x.pay(500, 5, 0, 1, 0, 0));
        e.of(7, "are passed over");
        refused("batch(0, 0, 2), the 121st and one more", 0, 0, x -> x.batch(0, 0, 2));
        e.of(13, WORDS);
        refused("feed('x', 1)", Due.FULL, SAME, x -> x.feed('x', 1));
        refused("feed('x', 8)", Due.FULL, SAME, x -> x.feed('x', 8));
        e.of(27, WORDS);
        refused("drift(0, 0, 50, 200, 0)", Due.FULL, SAME, x -> x.drift(0, 0, 50, 200, 0));
    }
}
