/** Edges of how long an object is used: its 512th call is answered as its first. */
final class CallEdges {
    private static final String WORDS = "An object is used for at most 512 calls after it has been made";

    private final Edges e;

    CallEdges(Edges e) {
        this.e = e;
    }

    void run() {
        sheets();
        sets();
        texts();
        payments();
        asks();
        marks();
        beyond();
    }

    private void sheets() {
        e.of(2, WORDS);
        OddPayments x = new OddPayments();
        for (int i = 0; i < 511; i++) {
            e.is("sheet", x.sheet(i % 8, i % 3, i % 121), i % 121);
        }
        e.is("the 512th call", x.count(0), 8);
    }

    private void sets() {
        e.of(3, WORDS);
        OddPayments x = new OddPayments();
        x.sheet(0, 2, 120);
        for (int i = 0; i < 510; i++) {
            e.is("set", x.set(0, i % 120, i), i);
        }
        e.is("the 512th call", x.drop(0), 120);
    }

    private void texts() {
        e.of(14, WORDS);
        OddPayments x = new OddPayments();
        for (int i = 0; i < 102; i++) {
            x.feed(0x72756c6520352069L, 8);
            x.feed(0x6620736f72743d30L, 8);
            x.feed(';', 1);
            e.is("feed", x.count(7), 17);
            e.is("rules", x.rules(), 1);
        }
        e.row("the 511th and 512th call", Edges.r(x.count(2), x.count(7)), 1, 0);
    }

    private void payments() {
        e.of(6, WORDS);
        OddPayments x = new OddPayments();
        for (int i = 0; i < 120; i++) {
            e.is("pay", x.pay(i, 100 - i % 7, i % 20, (i + 1) % 20, i + 1, i % 4), i);
        }
        for (int i = 0; i < 391; i++) {
            e.is("doubled", x.pay(i % 120, 1, 0, 1, 1, 0), Due.STATE);
        }
        e.is("the 512th call", x.pay(500, 1, 0, 1, 1, 0), Due.FULL);
    }

    private void asks() {
        e.of(31, WORDS);
        OddPayments x = new OddPayments();
        x.pay(1, 1, 0, 1, 77, 3);
        x.verdict(1, 0);
        for (int i = 0; i < 509; i++) {
            e.is("ask", x.ask(1, i % 2), i % 2 == 0 ? 80 : 3);
        }
        e.is("the 512th call", x.trace(3), 20);
    }

    private void marks() {
        e.of(10, WORDS);
        OddPayments x = new OddPayments();
        x.pay(1, 1, 0, 1, 77, 3);
        for (int i = 0; i < 255; i++) {
            e.is("mark", x.mark(1, 1 - i % 2), 1);
            e.is("far", x.feature(1, 8, 0), i % 2 == 0 ? 0 : 9);
        }
        e.is("the 512th call", x.count(5), 1);
    }

    /** What later calls answer is free, but they answer. */
    private void beyond() {
        e.of(34, "what later calls answer is free");
        OddPayments x = new OddPayments();
        long sum = 0;
        for (int i = 0; i < 20000; i++) {
            sum += x.pay(i % 1001, i, i % 21, i % 19, i, i % 5) + x.feed(i, i % 10) + x.mark(i % 21, i % 3) + x.sheet(i % 9, i % 4, i % 122 - 1) + x.batch(i % 8, i % 7, i % 3);
            sum += i % 97 == 0 ? x.rules() + x.learnt(i % 4) + x.bestSetting(i % 3) + x.queue(i % 5) + x.acts(3) : x.ask(i % 1000, i % 2) + x.trace(i % 17);
        }
        e.is("answers", sum == Long.MIN_VALUE ? 0 : 1, 1);
    }
}
