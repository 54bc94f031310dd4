/** Promises 6 to 12. */
public final class PaymentsTest {
    private static final Due due = new Due();

    public static void main(String[] args) {
        pay();
        batch();
        told();
        order();
        mark();
        windows();
        nets();
        ratio();
        profile();
        knownThen();
        due.end();
    }

    private static void pay() {
        due.promise(6, "pay");
        OddPayments x = new OddPayments();
        due.is("least", x.pay(0, 0, 0, 1, 1, 0), 0);
        due.is("greatest", x.pay(999, 100000, 19, 18, 100000, 3), 1);
        due.all("bad", Due.BAD, x.pay(-1, 0, 0, 1, 1, 0), x.pay(1000, 0, 0, 1, 1, 0), x.pay(1, -1, 0, 1, 1, 0), x.pay(1, 100001, 0, 1, 1, 0),
                x.pay(1, 0, -1, 1, 1, 0), x.pay(1, 0, 20, 1, 1, 0), x.pay(1, 0, 0, -1, 1, 0), x.pay(1, 0, 0, 20, 1, 0),
                x.pay(1, 0, 5, 5, 1, 0), x.pay(1, 0, 0, 1, 0, 0), x.pay(1, 0, 0, 1, 100001, 0), x.pay(1, 0, 0, 1, 1, -1),
                x.pay(1, 0, 0, 1, 1, 4), x.pay(Due.LEAST, 0, 0, 1, 1, 0), x.pay(Due.MOST, 0, 0, 1, 1, 0));
        due.is("doubled", x.pay(0, 5, 2, 3, 4, 1), Due.STATE);
        due.is("BAD ahead of STATE", x.pay(0, 5, 2, 2, 4, 1), Due.BAD);
        due.is("the first stays", x.told(0, 1), 0);
        for (int i = 2; i < 120; i++) {
            due.is("pay", x.pay(i, 500 - i, 1, 2, i, i % 4), i);
        }
        due.is("the 121st", x.pay(500, 0, 0, 1, 1, 0), Due.FULL);
        due.is("STATE ahead of FULL", x.pay(119, 0, 0, 1, 1, 0), Due.STATE);
        due.is("BAD ahead of FULL", x.pay(500, 0, 0, 1, 1, 4), Due.BAD);
        due.is("count(1)", x.count(1), 120);
        due.is("none came", x.told(500, 0), Due.BAD);
        due.row("first and last tags", new long[] {x.told(0, 0), x.told(999, 0), x.told(999, 1), x.told(999, 4)}, 0, 1, 100000, 100000);
        due.promise(9, "order");
        due.row("of all 120", new long[] {x.order(0), x.order(1), x.order(118), x.order(119), x.order(120), x.order(121)}, 0, 119, 2, 999, Due.NONE, Due.NONE);
    }

    private static void lay(OddPayments x, int sheet, int at, int... items) {
        for (int i = 0; i < items.length; i++) {
            x.set(sheet, at + i, items[i]);
        }
    }

    private static void batch() {
        due.promise(7, "batch");
        OddPayments x = new OddPayments();
        x.sheet(0, 2, 120);
        lay(x, 0, 1, 5, 70000, 1, 2, 99999, 3, 5, 8, 1, 2, 3, 0, 6, 8, 1, 1, 3, 0, 7, 9, 3, 2, 3, 0);
        due.is("doubled and BAD ones are passed over", x.batch(0, 1, 4), 2);
        due.row("numbers", new long[] {x.told(5, 0), x.told(6, 0), x.told(7, 0), x.told(5, 4)}, 0, Due.BAD, 1, 99999);
        due.all("bad", Due.BAD, x.batch(-1, 0, 1), x.batch(8, 0, 1), x.batch(0, 0, 0), x.batch(0, 0, 21), x.batch(1, 0, 21), x.batch(0, 0, -1), x.batch(0, -1, 0));
        due.all("missing", Due.NULL, x.batch(1, 0, 1), x.batch(1, -1, 20));
        due.all("no place", Due.PLACE, x.batch(0, -1, 1), x.batch(0, 1, 20), x.batch(0, 115, 1), x.batch(0, 120, 1), x.batch(0, Due.MOST, 1), x.batch(0, Due.LEAST, 20));
        due.is("to the very end", x.batch(0, 114, 1), 0);
        x.sheet(3, 2, 120);
        due.is("all of it", x.batch(3, 0, 20), 0);
        x.sheet(2, 0, 6);
        lay(x, 2, 0, 100, 127, 1, 2, 100, 1);
        due.is("of bytes", x.batch(2, 0, 1), 1);
        due.is("its last item", x.told(100, 5), 1);
        x.set(2, 0, 200);
        due.is("a byte below 0", x.batch(2, 0, 1), 0);
        for (int i = 200; i < 316; i++) {
            x.pay(i, i, 1, 2, 3, 0);
        }
        lay(x, 0, 0, 900, 1, 1, 2, 3, 0, 901, 1, 1, 2, 3, 0, 902, 1, 1, 2, 3, 0);
        due.is("count(1)", x.count(1), 119);
        due.is("till it is full", x.batch(0, 0, 3), 1);
        due.is("the first of them", x.told(900, 0), 119);
        due.is("none more", x.batch(0, 6, 2), 0);
    }

    private static void told() {
        due.promise(8, "told");
        OddPayments x = new OddPayments();
        x.pay(900, 3, 4, 5, 6, 1);
        x.pay(20, 31, 7, 8, 9, 2);
        due.row("told", new long[] {x.told(20, 0), x.told(20, 1), x.told(20, 2), x.told(20, 3), x.told(20, 4), x.told(20, 5), x.told(20, 6)},
                1, 31, 7, 8, 9, 2, Due.NONE);
        x.verdict(20, 1);
        due.row("verdicts", new long[] {x.told(20, 6), x.told(900, 6)}, 1, Due.NONE);
        due.all("bad", Due.BAD, x.told(20, -1), x.told(20, 7), x.told(21, 0), x.told(-1, 0), x.told(1000, 0), x.told(Due.MOST, 0), x.told(Due.LEAST, 9));
    }

    private static void order() {
        due.promise(9, "order");
        OddPayments x = new OddPayments();
        x.pay(5, 10, 0, 1, 1, 0);
        x.pay(9, 3, 0, 1, 1, 0);
        x.pay(2, 10, 0, 1, 1, 0);
        x.pay(7, 10, 0, 1, 1, 0);
        x.pay(1, 99, 0, 1, 1, 0);
        due.row("order", new long[] {x.order(0), x.order(1), x.order(2), x.order(3), x.order(4), x.order(5)}, 9, 2, 5, 7, 1, Due.NONE);
        due.all("not so many", Due.NONE, x.order(-1), x.order(120), x.order(Due.MOST), x.order(Due.LEAST));
    }

    private static void mark() {
        due.promise(10, "mark");
        OddPayments x = new OddPayments();
        due.row("mark", new long[] {x.mark(0, 0), x.mark(0, 1), x.mark(0, 1), x.mark(19, 1), x.count(5), x.mark(0, 0), x.mark(0, 0), x.count(5)},
                0, 1, 0, 1, 2, 1, 0, 1);
        due.all("bad", Due.BAD, x.mark(-1, 1), x.mark(20, 1), x.mark(1, -1), x.mark(1, 2), x.mark(Due.MOST, 1));
        due.is("count(5)", x.count(5), 1);
    }

    private static long[] features(OddPayments x, int tag, int known) {
        long[] row = new long[10];
        for (int f = 0; f < 10; f++) {
            row[f] = x.feature(tag, f, known);
        }
        return row;
    }

    private static void windows() {
        due.promise(11, "feature: windows");
        OddPayments x = new OddPayments();
        Due.read(x, "window 10;decay 100000;");
        x.pay(50, 100, 1, 2, 40, 3);
        due.row("alone", features(x, 50, 0), 40, 3, 4, 0, 0, 1, 0, 4000, 9, 0);
        x.pay(10, 90, 1, 3, 7, 0);
        due.row("one at its window's edge, not in it", features(x, 50, 0), 40, 3, 4, 0, 0, 1, 0, 2000, 9, 0);
        x.pay(11, 91, 1, 3, 5, 0);
        due.row("one just in it", features(x, 50, 0), 40, 3, 4, 1, 5, 2, 0, 1333, 9, 0);
        x.pay(12, 100, 1, 2, 6, 0);
        due.row("one of its time, ahead by its tag", features(x, 50, 0), 40, 3, 4, 2, 11, 2, 1, 1000, 9, 1);
        x.pay(51, 100, 1, 4, 6, 0);
        due.row("one of its time, behind it by its tag", features(x, 50, 0), 40, 3, 4, 2, 11, 2, 1, 1000, 9, 1);
        x.pay(13, 95, 6, 2, 1, 0);
        x.pay(14, 90, 7, 2, 1, 0);
        x.pay(15, 1, 1, 2, 1, 0);
        due.row("into has a window, seen has none", features(x, 50, 0), 40, 3, 4, 2, 11, 2, 2, 1000, 9, 2);
        due.all("bad", Due.BAD, x.feature(50, -1, 0), x.feature(50, 10, 0), x.feature(50, 0, -1), x.feature(50, 0, 2), x.feature(99, 0, 0), x.feature(-1, 0, 0), x.feature(1000, 0, 1));
    }

    /** A chain 0 - 1 - 2 .. by payments of either direction. */
    private static void nets() {
        due.promise(11, "feature: far");
        OddPayments x = new OddPayments();
        for (int i = 0; i < 12; i++) {
            boolean there = i % 2 == 0;
            x.pay(i, i, there ? i : i + 1, there ? i + 1 : i, 5, 0);
        }
        x.pay(100, 50, 15, 0, 5, 0);
        due.is("none is marked", x.feature(100, 8, 0), 9);
        x.mark(12, 1);
        due.is("too far", x.feature(100, 8, 0), 9);
        x.mark(9, 1);
        due.is("nine links", x.feature(100, 8, 0), 9);
        x.mark(8, 1);
        due.is("eight links", x.feature(100, 8, 0), 8);
        x.mark(15, 1);
        due.is("its own payer is no link of its own", x.feature(100, 8, 0), 8);
        x.mark(3, 1);
        due.is("three links", x.feature(100, 8, 0), 3);
        x.mark(0, 1);
        due.is("itself", x.feature(100, 8, 0), 0);
        x.mark(0, 0);
        x.mark(3, 0);
        x.pay(101, 49, 0, 7, 5, 0);
        due.is("a shorter way that comes late", x.feature(100, 8, 0), 2);
        due.is("as it was known then", x.feature(100, 8, 1), 8);
        x.pay(102, 51, 0, 8, 5, 0);
        due.is("links behind it do not count", x.feature(100, 8, 0), 2);
    }

    private static void ratio() {
        due.promise(11, "feature: ratio");
        OddPayments x = new OddPayments();
        Due.read(x, "decay 10;");
        x.pay(1, 0, 0, 1, 100000, 0);
        due.is("the greatest", x.feature(1, 7, 0), 10000000);
        x.pay(2, 9, 0, 1, 1, 0);
        due.is("cut", x.feature(2, 7, 0), 0);
        x.pay(3, 9, 0, 1, 1000, 0);
        due.is("profile(3)", x.profile(3, 0), 18751);
        due.is("ratio", x.feature(3, 7, 0), 100000 / 18752);
    }

    private static void profile() {
        due.promise(12, "profile");
        OddPayments x = new OddPayments();
        Due.read(x, "decay 10;");
        x.pay(1, 100, 0, 1, 40, 0);
        due.is("none ahead", x.profile(1, 0), 0);
        x.pay(2, 109, 0, 2, 60, 0);
        due.is("10, not yet faded", x.profile(2, 0), 10);
        x.pay(3, 110, 0, 2, 60, 0);
        due.is("10, then 22", x.profile(3, 0), 22);
        x.pay(4, 119, 0, 2, 3, 0);
        due.is("22, then 31", x.profile(4, 0), 31);
        x.pay(5, 150, 0, 2, 3, 0);
        due.is("31, less 7 (31 + (3 - 31) / 4), faded thrice: 18, 14, 11", x.profile(5, 0), 11);
        x.pay(6, 150, 1, 2, 3, 0);
        due.is("another payer", x.profile(6, 0), 0);
        Due.read(x, "decay 1;");
        x.pay(7, 30000, 3, 2, 100000, 0);
        x.pay(8, 30004, 3, 2, 1, 0);
        due.is("25000 faded four times: 18750, 14063, 10548, 7911", x.profile(8, 0), 7911);
        x.pay(9, 31000, 3, 2, 1, 0);
        int v = 7911 + (1 - 7911) / 4;
        for (int i = 0; i < 40; i++) {
            v -= v / 4;
        }
        due.is("at most 40 times", x.profile(9, 0), v);
        due.all("bad", Due.BAD, x.profile(1, -1), x.profile(1, 2), x.profile(99, 0), x.profile(-1, 0), x.profile(1000, 0));
    }

    private static void knownThen() {
        due.promise(11, "feature: as known");
        OddPayments x = new OddPayments();
        x.pay(9, 100, 0, 1, 40, 0);
        x.pay(8, 200, 0, 1, 80, 0);
        x.pay(7, 150, 0, 2, 20, 0);
        due.row("as all is known", features(x, 8, 0), 80, 0, 8, 1, 20, 2, 1, 800, 9, 0);
        due.row("as it was known then", features(x, 8, 1), 80, 0, 8, 0, 0, 1, 1, 1142, 9, 0);
        due.promise(12, "profile: as known");
        due.is("as all is known: 10, 8, 11, 9", x.profile(8, 0), 9);
        due.is("as it was known then: 10, faded twice", x.profile(8, 1), 6);
    }
}
