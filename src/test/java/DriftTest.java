/** Promises 27 and 28. */
public final class DriftTest {
    private static final Due due = new Due();

    public static void main(String[] args) {
        small();
        edges();
        great();
        refused();
        counted();
        due.end();
    }

    private static long[] all(OddPayments x, int sort, int from, int middle, int to) {
        long[] row = new long[6];
        for (int what = 0; what < 6; what++) {
            row[what] = x.drift(sort, from, middle, to, what);
        }
        return row;
    }

    /** Payments of one sort, then of another, at times from first on. */
    private static void put(OddPayments x, int first, int ofSort, int others) {
        for (int i = 0; i < ofSort + others; i++) {
            x.pay(first + i, first + i, 0, 1, 1, i < ofSort ? 2 : 3);
        }
    }

    private static void small() {
        due.promise(27, "drift");
        OddPayments x = new OddPayments();
        due.row("none", all(x, 0, 0, 0, 0), 1, 1, 0, 0, 0, 0);
        put(x, 0, 3, 1);
        put(x, 100, 0, 3);
        due.row("3 of 4, then 0 of 3: 4 of 35 ways, and 1 of the other side", all(x, 2, 0, 100, 200), 5, 35, 4, 3, 3, 0);
        due.row("its counterpart", all(x, 3, 0, 100, 200), 5, 35, 4, 1, 3, 3);
        due.row("a sort that is not there", all(x, 1, 0, 100, 200), 35, 35, 4, 0, 3, 0);
        due.row("the first part alone", all(x, 2, 0, 50, 60), 1, 1, 4, 3, 0, 0);
        due.row("the second part alone", all(x, 2, 50, 60, 200), 1, 1, 0, 0, 3, 0);
    }

    private static void edges() {
        OddPayments x = new OddPayments();
        x.pay(1, 10, 0, 1, 1, 0);
        x.pay(2, 20, 0, 1, 1, 0);
        x.pay(3, 30, 0, 1, 1, 1);
        x.pay(4, 100000, 0, 1, 1, 1);
        due.row("from its time on, the middle in the second part, the last not among them", all(x, 0, 10, 20, 30), 1 + 1, 2, 1, 1, 1, 1);
        due.row("a time later", all(x, 0, 11, 21, 31), 2, 2, 1, 1, 1, 0);
        due.row("to the last time of all", all(x, 0, 0, 30, 200000), 2, 6, 2, 2, 2, 0);
        due.row("all in one time", all(x, 0, 10, 10, 10), 1, 1, 0, 0, 0, 0);
    }

    private static void great() {
        OddPayments x = new OddPayments();
        put(x, 0, 20, 0);
        put(x, 100, 0, 20);
        due.row("forty, as far apart as can be", all(x, 2, 0, 100, 200), 2, 137846528820L, 20, 20, 20, 0);
        x.pay(999, 150, 0, 1, 1, 0);
        for (int what = 0; what < 6; what++) {
            due.is("forty-one", x.drift(2, 0, 100, 200, what), Due.FULL);
        }
        due.is("fewer of them", x.drift(2, 1, 100, 200, 2), 19);
        OddPayments y = new OddPayments();
        put(y, 0, 10, 10);
        put(y, 100, 10, 10);
        due.row("forty, not apart at all", all(y, 2, 0, 100, 200), 137846528820L, 137846528820L, 20, 10, 20, 10);
    }

    private static void refused() {
        OddPayments x = new OddPayments();
        for (int i = 0; i < 50; i++) {
            x.pay(i, 5, 0, 1, 1, 0);
        }
        due.all("bad", Due.BAD, x.drift(-1, 0, 1, 2, 0), x.drift(4, 0, 1, 2, 0), x.drift(0, -1, 1, 2, 0), x.drift(0, 2, 1, 2, 0), x.drift(0, 0, 3, 2, 0),
                x.drift(0, 0, 1, 200001, 0), x.drift(0, 0, 200001, 200001, 0), x.drift(0, 0, 1, 2, -1), x.drift(0, 0, 1, 2, 6), x.drift(0, 0, 1, 9, 6),
                x.drift(0, Due.LEAST, 0, Due.MOST, 0));
        due.is("FULL", x.drift(0, 0, 1, 9, 2), Due.FULL);
        due.is("the last time that is not among them", x.drift(0, 0, 1, 5, 2), 0);
        due.is("the greatest times", x.drift(0, 200000, 200000, 200000, 0), 1);
    }

    private static void counted() {
        due.promise(28, "counted");
        OddPayments x = new OddPayments();
        int[] times = {10, 20, 20, 30, 40, 50};
        for (int i = 0; i < times.length; i++) {
            x.pay(i, times[i], 3, 4, 1, 0);
        }
        x.pay(100, 20, 4, 3, 1, 0);
        due.row("counted", new long[] {x.counted(0, 10, 3), x.counted(0, 11, 3), x.counted(10, 40, 3), x.counted(10, 41, 3), x.counted(10, 50, 3),
            x.counted(10, 51, 3), x.counted(11, 51, 3), x.counted(20, 51, 3), x.counted(21, 51, 3), x.counted(51, 200000, 3)},
                0, Due.NONE, Due.NONE, 5, 5, 6, 5, 5, Due.NONE, 0);
        due.row("of others", new long[] {x.counted(0, 200000, 4), x.counted(0, 200000, 0), x.counted(20, 20, 4)}, Due.NONE, 0, 0);
        due.all("bad", Due.BAD, x.counted(-1, 5, 3), x.counted(6, 5, 3), x.counted(0, 200001, 3), x.counted(200001, 200001, 3), x.counted(0, 5, -1),
                x.counted(0, 5, 20), x.counted(0, Due.MOST, 3), x.counted(Due.LEAST, 0, 3));
    }
}
