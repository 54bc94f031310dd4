/** Edges of the promises 27 and 28. */
final class DriftEdges {
    private final Edges e;
    private int nextTag = 0;

    DriftEdges(Edges e) {
        this.e = e;
    }

    void run() {
        driftOfNone();
        driftFromAndTo();
        driftOfTheSort();
        driftOfOneSide();
        driftAsFarOrFarther();
        driftOfForty();
        driftFull();
        driftTimes();
        driftRefused();
        countedFromAndTo();
        countedOfFew();
        countedOfAPayer();
        countedRefused();
    }

    private static long[] drift(OddPayments x, int sort, int from, int middle, int to) {
        long[] row = new long[6];
        for (int what = 0; what < 6; what++) {
            row[what] = x.drift(sort, from, middle, to, what);
        }
        return row;
    }

    private void put(OddPayments x, int many, int time, int sort) {
        for (int i = 0; i < many; i++) {
            x.pay(nextTag % 1000, time, 0, 1, 1, sort);
            nextTag++;
        }
    }

    /** Times 0 and 10 with so many of sort 2 and of sort 0 each. */
    private OddPayments parts(int x, int others1, int y, int others2) {
        OddPayments o = new OddPayments();
        put(o, x, 0, 2);
        put(o, others1, 0, 0);
        put(o, y, 10, 2);
        put(o, others2, 10, 0);
        return o;
    }

    private void driftOfNone() {
        e.of(27, "of all ways in which n1 of the n1 + n2 could have been the first ones (as many as there are)");
        e.row("no payments: one way", drift(new OddPayments(), 0, 0, 5, 9), 1, 1, 0, 0, 0, 0);
        e.row("none in these times", drift(parts(3, 3, 3, 3), 2, 1, 5, 10), 1, 1, 0, 0, 0, 0);
        e.row("no time at all", drift(parts(3, 3, 3, 3), 2, 0, 0, 0), 1, 1, 0, 0, 0, 0);
    }

    private void driftFromAndTo() {
        e.of(27, "from one time to a middle one (not among them), and from there to a third one");
        OddPayments x = new OddPayments();
        for (int time : new int[] {19, 20, 21, 29, 30, 31, 39, 40, 41}) {
            put(x, 1, time, 1);
        }
        e.row("n1 and n2", Edges.r(x.drift(1, 20, 30, 40, 2), x.drift(1, 20, 30, 40, 4)), 3, 3);
        e.row("x and y", Edges.r(x.drift(1, 20, 30, 40, 3), x.drift(1, 20, 30, 40, 5)), 3, 3);
        e.row("one later each", Edges.r(x.drift(1, 21, 31, 41, 2), x.drift(1, 21, 31, 41, 4)), 3, 3);
        e.row("from alone", Edges.r(x.drift(1, 19, 30, 40, 2), x.drift(1, 19, 30, 40, 4)), 4, 3);
        e.row("the middle alone", Edges.r(x.drift(1, 20, 31, 40, 2), x.drift(1, 20, 31, 40, 4)), 4, 2);
        e.row("the third alone", Edges.r(x.drift(1, 20, 30, 41, 2), x.drift(1, 20, 30, 41, 4)), 3, 4);
        e.row("no first part", drift(x, 1, 30, 30, 40), 1, 1, 0, 0, 3, 3);
        e.row("no second part", drift(x, 1, 20, 30, 30), 1, 1, 3, 3, 0, 0);
    }

    private void driftOfTheSort() {
        e.of(27, "n1 PAYMENTS, x of the sort");
        OddPayments x = new OddPayments();
        for (int sort = 0; sort < 4; sort++) {
            put(x, sort + 1, 0, sort);
            put(x, 4 - sort, 10, sort);
        }
        for (int sort = 0; sort < 4; sort++) {
            e.row("sort " + sort, Edges.r(x.drift(sort, 0, 10, 20, 2), x.drift(sort, 0, 10, 20, 3), x.drift(sort, 0, 10, 20, 4), x.drift(sort, 0, 10, 20, 5)),
                    10, sort + 1, 10, 4 - sort);
            e.is("all ways", x.drift(sort, 0, 10, 20, 1), 184756);
        }
    }

    private void driftOfOneSide() {
        e.of(27, "n2, y of it: of all ways in which n1 of the n1 + n2 could have been the first ones (as many as there are)");
        e.row("the first ones alone", drift(parts(2, 3, 0, 0), 2, 0, 10, 20), 1, 1, 5, 2, 0, 0);
        e.row("the second ones alone", drift(parts(0, 0, 2, 3), 2, 0, 10, 20), 1, 1, 0, 0, 5, 2);
        e.row("one and none", drift(parts(1, 0, 0, 0), 2, 0, 10, 20), 1, 1, 1, 1, 0, 0);
        e.row("none of the sort", drift(parts(0, 2, 0, 3), 2, 0, 10, 20), 10, 10, 2, 0, 3, 0);
        e.row("all of the sort", drift(parts(2, 0, 3, 0), 2, 0, 10, 20), 10, 10, 2, 2, 3, 3);
    }

    private void driftAsFarOrFarther() {
        e.of(27, "in how many x and y would be as far apart, or farther: x n2 and y n1 differing (without sign) by as much or more");
        e.row("2 of 2, 0 of 2: as far on the other side", drift(parts(2, 0, 0, 2), 2, 0, 10, 20), 2, 6, 2, 2, 2, 0);
        e.row("0 of 2, 2 of 2", drift(parts(0, 2, 2, 0), 2, 0, 10, 20), 2, 6, 2, 0, 2, 2);
        e.row("1 of 2, 1 of 2: not apart", drift(parts(1, 1, 1, 1), 2, 0, 10, 20), 6, 6, 2, 1, 2, 1);
        e.row("1 of 1, 0 of 3: the other side is not as far", drift(parts(1, 0, 0, 3), 2, 0, 10, 20), 1, 4, 1, 1, 3, 0);
        e.row("0 of 1, 1 of 3: the other side is farther", drift(parts(0, 1, 1, 2), 2, 0, 10, 20), 4, 4, 1, 0, 3, 1);
        e.row("0 of 3, 1 of 1", drift(parts(0, 3, 1, 0), 2, 0, 10, 20), 1, 4, 3, 0, 1, 1);
        e.row("1 of 3, 0 of 1", drift(parts(1, 2, 0, 1), 2, 0, 10, 20), 4, 4, 3, 1, 1, 0);
        e.row("3 of 4, 1 of 4: 16 and 1 on each side", drift(parts(3, 1, 1, 3), 2, 0, 10, 20), 34, 70, 4, 3, 4, 1);
        e.row("4 of 4, 0 of 4", drift(parts(4, 0, 0, 4), 2, 0, 10, 20), 2, 70, 4, 4, 4, 0);
        e.row("2 of 3, 1 of 4", drift(parts(2, 1, 1, 3), 2, 0, 10, 20), 12 + 1 + 4, 35, 3, 2, 4, 1);
    }

    private void driftOfForty() {
        e.of(27, "DRIFT: 0 in how many ways, 1 all ways, 2 n1, 3 x, 4 n2, 5 y");
        e.row("20 of 20, 0 of 20", drift(parts(20, 0, 0, 20), 2, 0, 10, 20), 2, 137846528820L, 20, 20, 20, 0);
        e.row("10 of 20, 10 of 20", drift(parts(10, 10, 10, 10), 2, 0, 10, 20), 137846528820L, 137846528820L, 20, 10, 20, 10);
        e.row("20 of 20, 20 of 20", drift(parts(20, 0, 20, 0), 2, 0, 10, 20), 137846528820L, 137846528820L, 20, 20, 20, 20);
        e.row("19 of 20, 1 of 20", drift(parts(19, 1, 1, 19), 2, 0, 10, 20), 2 * (400 + 1), 137846528820L, 20, 19, 20, 1);
        e.row("40 of 40", drift(parts(40, 0, 0, 0), 2, 0, 10, 20), 1, 1, 40, 40, 0, 0);
        e.row("40 later ones", drift(parts(0, 0, 0, 40), 2, 0, 10, 20), 1, 1, 0, 0, 40, 0);
        e.row("1 of 1, 0 of 39", drift(parts(1, 0, 0, 39), 2, 0, 10, 20), 1, 40, 1, 1, 39, 0);
    }

    private void driftFull() {
        e.of(27, "FULL as a long: n1 + n2 above 40");
        OddPayments x = parts(20, 0, 0, 21);
        for (int what = 0; what < 6; what++) {
            e.is("41, what = " + what, x.drift(2, 0, 10, 20, what), -1000003L);
        }
        e.row("those of other times do not count", Edges.r(x.drift(2, 1, 10, 20, 4), x.drift(2, 0, 10, 10, 2)), 21, 20);
        OddPayments first = parts(41, 0, 0, 0);
        e.row("41 first ones", Edges.r(first.drift(2, 0, 10, 20, 2), first.drift(2, 0, 0, 20, 4), first.drift(2, 1, 10, 20, 2)), -1000003L, -1000003L, 0);
        e.of(27, "the first of these that fits: BAD");
        e.all("BAD ahead of FULL", -1000001L, x.drift(4, 0, 10, 20, 0), x.drift(2, 0, 10, 20, 6), x.drift(2, 0, 10, 20, -1), x.drift(2, 0, 10, 200001, 0), x.drift(-1, 0, 10, 20, 0));
    }

    private void driftTimes() {
        e.of(27, "times (0 to 200000, each not below the one ahead)");
        OddPayments x = parts(1, 1, 1, 1);
        put(x, 1, 100000, 2);
        e.row("to the last time", drift(x, 2, 0, 100000, 200000), 5, 5, 4, 2, 1, 1);
        e.row("the last time is not among them", drift(x, 2, 0, 10, 100000), 6, 6, 2, 1, 2, 1);
        e.all("the greatest", 1, x.drift(2, 200000, 200000, 200000, 0), x.drift(2, 0, 0, 0, 0), x.drift(2, 5, 5, 5, 0));
        e.is("0 and 200000", x.drift(2, 0, 200000, 200000, 2), 5);
        e.all("from", -1000001L, x.drift(2, -1, 5, 9, 0), x.drift(2, 200001, 200001, 200001, 0), x.drift(2, Due.LEAST, 5, 9, 0), x.drift(2, Due.MOST, 5, 9, 0));
        e.all("the middle", -1000001L, x.drift(2, 0, 200001, 200001, 0), x.drift(2, 6, 5, 9, 0), x.drift(2, 0, -1, 9, 0), x.drift(2, 0, Due.LEAST, 9, 0), x.drift(2, 0, Due.MOST, 9, 0));
        e.all("the third", -1000001L, x.drift(2, 0, 5, 200001, 0), x.drift(2, 0, 5, 4, 0), x.drift(2, 0, 0, -1, 0), x.drift(2, 0, 5, Due.LEAST, 0), x.drift(2, 0, 5, Due.MOST, 0));
        e.is("the third is above from, but not above the middle", x.drift(2, 1, 9, 5, 0), -1000001L);
    }

    private void driftRefused() {
        e.of(27, "BAD as a long: sort, times");
        OddPayments x = parts(1, 1, 1, 1);
        e.all("sort", -1000001L, x.drift(-1, 0, 10, 20, 0), x.drift(4, 0, 10, 20, 0), x.drift(Due.LEAST, 0, 10, 20, 0), x.drift(Due.MOST, 0, 10, 20, 0));
        e.all("what", -1000001L, x.drift(0, 0, 10, 20, -1), x.drift(0, 0, 10, 20, 6), x.drift(0, 0, 10, 20, Due.LEAST), x.drift(0, 0, 10, 20, Due.MOST));
        e.row("the first and the last sort", Edges.r(x.drift(0, 0, 10, 20, 5), x.drift(3, 0, 10, 20, 5)), 1, 0);
    }

    private void countedFromAndTo() {
        e.of(28, "COUNTED from a time to another one (this one not among them) of a PAYER: how many");
        OddPayments x = new OddPayments();
        put(x, 5, 10, 0);
        put(x, 5, 20, 0);
        put(x, 5, 100000, 0);
        e.row("from", Edges.r(x.counted(9, 15, 0), x.counted(10, 15, 0), x.counted(11, 15, 0)), 5, 5, 0);
        e.row("to", Edges.r(x.counted(5, 10, 0), x.counted(5, 11, 0), x.counted(5, 20, 0), x.counted(5, 21, 0)), 0, 5, 5, 10);
        e.row("no time at all", Edges.r(x.counted(10, 10, 0), x.counted(0, 0, 0), x.counted(200000, 200000, 0)), 0, 0, 0);
        e.row("to the last time", Edges.r(x.counted(0, 100000, 0), x.counted(0, 100001, 0), x.counted(0, 200000, 0), x.counted(100000, 200000, 0)), 10, 15, 15, 5);
        OddPayments all = new OddPayments();
        for (int i = 0; i < 120; i++) {
            all.pay(i, 0, 19, 1, 1, 0);
        }
        e.row("120 of time 0", Edges.r(all.counted(0, 1, 19), all.counted(0, 1, 1), all.counted(1, 200000, 19)), 120, 0, 0);
    }

    private void countedOfFew() {
        e.of(28, "but NONE, if they are 1 to 4");
        OddPayments x = new OddPayments();
        e.is("0", x.counted(0, 9, 0), 0);
        long[] due = {Due.NONE, Due.NONE, Due.NONE, Due.NONE, 5, 6};
        for (int i = 0; i < 6; i++) {
            put(x, 1, 5, 0);
            e.is((i + 1) + "", x.counted(0, 9, 0), due[i]);
        }
        e.of(28, "NONE");
        e.row("of a part", Edges.r(x.counted(0, 5, 0), x.counted(6, 9, 0), x.counted(5, 6, 0)), 0, 0, 6);
        e.is("few are no refusal that status() tells", x.status(), 0);
    }

    private void countedOfAPayer() {
        e.of(28, "COUNTED");
        OddPayments x = new OddPayments();
        for (int i = 0; i < 6; i++) {
            x.pay(i, 5, 0, 19, 1, 0);
            x.pay(100 + i, 5, 19, 0, 1, 0);
        }
        x.pay(200, 5, 19, 1, 1, 0);
        x.pay(201, 5, 7, 19, 1, 0);
        e.row("of the first, the last and others", Edges.r(x.counted(0, 9, 0), x.counted(0, 9, 19), x.counted(0, 9, 7), x.counted(0, 9, 1)), 6, 7, Due.NONE, 0);
    }

    private void countedRefused() {
        OddPayments x = new OddPayments();
        e.of(28, "BAD: times (0 to 200000, the second not below the first), PAYER");
        e.all("from", Due.BAD, x.counted(-1, 5, 0), x.counted(200001, 200001, 0), x.counted(Due.LEAST, 5, 0), x.counted(Due.MOST, Due.MOST, 0));
        e.all("to", Due.BAD, x.counted(0, -1, 0), x.counted(0, 200001, 0), x.counted(0, Due.LEAST, 0), x.counted(0, Due.MOST, 0));
        e.all("the second below the first", Due.BAD, x.counted(1, 0, 0), x.counted(200000, 199999, 0));
        e.all("payer", Due.BAD, x.counted(0, 5, -1), x.counted(0, 5, 20), x.counted(0, 5, Due.LEAST), x.counted(0, 5, Due.MOST));
        e.all("just good", 0, x.counted(0, 200000, 0), x.counted(0, 200000, 19), x.counted(200000, 200000, 0));
    }
}
