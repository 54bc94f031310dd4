/** Promises 29 to 33. */
public final class AskedTest {
    private static final Due due = new Due();

    public static void main(String[] args) {
        kind();
        as();
        ask();
        trace();
        count();
        due.end();
    }

    /** Tag 0 is a plain payment, 1 is held, 2 is stopped, 3 (blocked, too) is cleared, 4 (blocked) is odd. */
    private static OddPayments kinds() {
        OddPayments x = new OddPayments();
        Due.read(x, "look 3;block 9;rule 4 if sort=1;rule 11 if sort>1;");
        x.pay(900, 7, 18, 19, 1, 0);
        x.pay(0, 8, 5, 6, 70, 0);
        x.pay(1, 9, 6, 7, 80, 1);
        x.pay(2, 10, 7, 8, 90, 2);
        x.pay(3, 11, 8, 9, 100, 3);
        x.pay(4, 12, 9, 10, 110, 2);
        x.verdict(3, 0);
        x.verdict(4, 1);
        return x;
    }

    private static void kind() {
        due.promise(29, "kind");
        OddPayments x = kinds();
        due.row("kinds", new long[] {x.kind(0), x.kind(1), x.kind(2), x.kind(3), x.kind(4)}, 0, 1, 2, 3, 2);
        x.verdict(0, 0);
        x.verdict(3, 1);
        due.row("other verdicts", new long[] {x.kind(0), x.kind(3)}, 3, 2);
        x.rules();
        due.row("other rules", new long[] {x.kind(0), x.kind(1), x.kind(2), x.kind(3), x.kind(4)}, 3, 0, 0, 0, 0);
        due.all("bad", Due.BAD, x.kind(5), x.kind(-1), x.kind(1000), x.kind(Due.MOST));
    }

    private static void as() {
        due.promise(30, "as");
        OddPayments x = kinds();
        due.row("payments", new long[] {x.as(0, 0), x.as(1, 0), x.as(2, 0), x.as(3, 0)}, 1, 2, 3, 4);
        due.row("held ones", new long[] {x.as(0, 1), x.as(1, 1), x.as(2, 1), x.as(3, 1)}, Due.KIND, 2, 3, Due.KIND);
        due.row("stopped ones", new long[] {x.as(0, 2), x.as(1, 2), x.as(2, 2), x.as(3, 2)}, Due.KIND, Due.KIND, 3, Due.KIND);
        due.row("cleared ones", new long[] {x.as(0, 3), x.as(1, 3), x.as(2, 3), x.as(3, 3)}, Due.KIND, Due.KIND, Due.KIND, 4);
        due.all("bad", Due.BAD, x.as(0, -1), x.as(0, 4), x.as(5, 0), x.as(-1, 0), x.as(1000, 3), x.as(0, Due.MOST));
    }

    private static void asked(OddPayments x, int tag, int what, int want, int... bodies) {
        due.promise(31, "ask");
        due.is("ask(" + tag + ", " + what + ")", x.ask(tag, what), want);
        due.promise(32, "trace");
        for (int i = 0; i < 17; i++) {
            due.is("ask(" + tag + ", " + what + "), trace(" + i + ")", x.trace(i), i < bodies.length ? bodies[i] : Due.NONE);
        }
    }

    private static void ask() {
        OddPayments x = kinds();
        asked(x, 0, 0, 70, 10);
        asked(x, 0, 1, 0, 20);
        asked(x, 1, 0, 76, 11, 10);
        asked(x, 1, 1, 77, 21, 20, 11, 10);
        asked(x, 2, 0, 39, 12, 11, 10);
        asked(x, 2, 1, 2 + 39 + 100, 22, 21, 20, 12, 11, 10);
        asked(x, 3, 0, 100 + 3 + 8, 13, 10, 23, 20);
        asked(x, 3, 1, 3 + 8, 23, 20);
        asked(x, 4, 0, 49, 12, 11, 10);
        Due.read(x, "look 0;block 1;rule 100 if sort=2;");
        asked(x, 2, 0, -5, 12, 11, 10);
        x.pay(5, 30, 0, 1, 1, 2);
        asked(x, 5, 0, -49, 12, 11, 10);
        asked(x, 1, 0, 80, 11, 10);
        due.promise(31, "ask");
        due.all("bad", Due.BAD, x.ask(1, -1), x.ask(1, 2), x.ask(6, 0), x.ask(-1, 0), x.ask(1000, 0));
    }

    private static void trace() {
        due.promise(32, "trace");
        OddPayments x = kinds();
        due.is("ahead of an ask", x.trace(0), Due.NONE);
        x.ask(1, 0);
        x.ask(1, 7);
        x.ask(77, 0);
        due.row("refused asks leave it", new long[] {x.trace(0), x.trace(1), x.trace(2)}, 11, 10, Due.NONE);
        due.all("none", Due.NONE, x.trace(-1), x.trace(16), x.trace(Due.MOST), x.trace(Due.LEAST));
    }

    private static void count() {
        due.promise(33, "count");
        OddPayments x = kinds();
        x.sheet(3, 1, 4);
        x.sheet(5, 1, 0);
        x.mark(3, 1);
        x.mark(4, 1);
        x.mark(5, 1);
        Due.feed(x, "look");
        due.row("counts", new long[] {x.count(0), x.count(1), x.count(2), x.count(3), x.count(4), x.count(5), x.count(6), x.count(7)},
                2, 6, 2, 2, 1, 3, 1, 4);
        due.all("bad", Due.BAD, x.count(-1), x.count(8), x.count(Due.LEAST), x.count(Due.MOST));
    }
}
