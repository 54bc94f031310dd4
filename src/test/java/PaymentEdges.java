/** Edges of the promises 6 to 10. */
final class PaymentEdges {
    private final Edges e;

    PaymentEdges(Edges e) {
        this.e = e;
    }

    void run() {
        tags();
        times();
        people();
        amounts();
        sorts();
        numbersAsTheyCome();
        doubled();
        full();
        batchOfOneToTwenty();
        batchToTheEnd();
        batchPassesOverBad();
        batchPassesOverDoubled();
        batchTillFull();
        batchOfSmallLanes();
        batchRefused();
        told();
        toldRefused();
        order();
        numbersGoFromZeroOn();
        orderOfNoneSuch();
        mark();
        markRefused();
    }

    private void tags() {
        e.of(6, "a TAG (0 to 999)");
        OddPayments x = new OddPayments();
        e.all("BAD", Due.BAD, x.pay(-1, 5, 0, 1, 1, 0), x.pay(1000, 5, 0, 1, 1, 0), x.pay(Due.LEAST, 5, 0, 1, 1, 0), x.pay(Due.MOST, 5, 0, 1, 1, 0));
        e.is("none came", x.count(1), 0);
        e.row("the least, the greatest", Edges.r(x.pay(0, 5, 0, 1, 1, 0), x.pay(999, 5, 0, 1, 1, 0)), 0, 1);
        e.row("found by them", Edges.r(x.told(0, 0), x.told(999, 0), x.told(1, 0), x.told(998, 0)), 0, 1, Due.BAD, Due.BAD);
    }

    private void times() {
        e.of(6, "a time (0 to 100000)");
        OddPayments x = new OddPayments();
        e.all("BAD", Due.BAD, x.pay(1, -1, 0, 1, 1, 0), x.pay(1, 100001, 0, 1, 1, 0), x.pay(1, Due.LEAST, 0, 1, 1, 0), x.pay(1, Due.MOST, 0, 1, 1, 0));
        e.is("none came", x.count(1), 0);
        e.row("the least, the greatest", Edges.r(x.pay(1, 0, 0, 1, 1, 0), x.pay(2, 100000, 0, 1, 1, 0)), 0, 1);
        e.row("as told", Edges.r(x.told(1, 1), x.told(2, 1)), 0, 100000);
    }

    private void people() {
        e.of(6, "a PAYER and a PAYEE (0 to 19 each, unlike)");
        OddPayments x = new OddPayments();
        e.all("payer", Due.BAD, x.pay(1, 5, -1, 1, 1, 0), x.pay(1, 5, 20, 1, 1, 0), x.pay(1, 5, Due.LEAST, 1, 1, 0), x.pay(1, 5, Due.MOST, 1, 1, 0));
        e.all("payee", Due.BAD, x.pay(1, 5, 1, -1, 1, 0), x.pay(1, 5, 1, 20, 1, 0), x.pay(1, 5, 1, Due.LEAST, 1, 0), x.pay(1, 5, 1, Due.MOST, 1, 0));
        for (int who = 0; who < 20; who++) {
            e.is("alike", x.pay(1, 5, who, who, 1, 0), Due.BAD);
        }
        e.is("alike and none", x.pay(1, 5, 20, 20, 1, 0), Due.BAD);
        e.is("none came", x.count(1), 0);
        e.row("the least, the greatest", Edges.r(x.pay(1, 5, 0, 19, 1, 0), x.pay(2, 5, 19, 0, 1, 0)), 0, 1);
        e.row("as told", Edges.r(x.told(1, 2), x.told(1, 3), x.told(2, 2), x.told(2, 3)), 0, 19, 19, 0);
    }

    private void amounts() {
        e.of(6, "an amount (1 to 100000)");
        OddPayments x = new OddPayments();
        e.all("BAD", Due.BAD, x.pay(1, 5, 0, 1, 0, 0), x.pay(1, 5, 0, 1, -1, 0), x.pay(1, 5, 0, 1, 100001, 0), x.pay(1, 5, 0, 1, Due.LEAST, 0), x.pay(1, 5, 0, 1, Due.MOST, 0));
        e.is("none came", x.count(1), 0);
        e.row("the least, the greatest", Edges.r(x.pay(1, 5, 0, 1, 1, 0), x.pay(2, 5, 0, 1, 100000, 0)), 0, 1);
        e.row("as told", Edges.r(x.told(1, 4), x.told(2, 4)), 1, 100000);
    }

    private void sorts() {
        e.of(6, "a sort (0 to 3)");
        OddPayments x = new OddPayments();
        e.all("BAD", Due.BAD, x.pay(1, 5, 0, 1, 1, -1), x.pay(1, 5, 0, 1, 1, 4), x.pay(1, 5, 0, 1, 1, Due.LEAST), x.pay(1, 5, 0, 1, 1, Due.MOST));
        e.is("none came", x.count(1), 0);
        e.row("the least, the greatest", Edges.r(x.pay(1, 5, 0, 1, 1, 0), x.pay(2, 5, 0, 1, 1, 3)), 0, 1);
        e.row("as told", Edges.r(x.told(1, 5), x.told(2, 5)), 0, 3);
        e.of(6, "BAD: a number");
        e.is("all of them", x.pay(-1, -1, -1, -1, -1, -1), Due.BAD);
        e.is("each is tried: the last alone", x.pay(3, 5, 0, 1, 1, 4), Due.BAD);
        e.is("a tag of a refused one is free", x.pay(3, 5, 0, 1, 1, 3), 2);
    }

    private void numbersAsTheyCome() {
        e.of(6, "it has a number, as they come (0, 1, ..; 120 at most)");
        OddPayments x = new OddPayments();
        e.is("the first", x.pay(500, 90000, 0, 1, 1, 0), 0);
        e.is("BAD takes none", x.pay(501, 90000, 0, 0, 1, 0), Due.BAD);
        e.is("STATE takes none", x.pay(500, 90000, 0, 1, 1, 0), Due.STATE);
        e.is("a late one", x.pay(2, 0, 0, 1, 1, 0), 1);
        e.is("one of its time", x.pay(3, 0, 0, 1, 1, 0), 2);
        e.of(6, "A PAYMENT comes: its number");
        e.row("numbers", Edges.r(x.told(500, 0), x.told(2, 0), x.told(3, 0), x.count(1)), 0, 1, 2, 3);
        e.row("all that it has", Edges.told(x, 2), 1, 0, 0, 1, 1, 0, Due.NONE);
    }

    private void doubled() {
        e.of(6, "STATE: one with its TAG is there (it is doubled)");
        OddPayments x = new OddPayments();
        x.pay(0, 5, 0, 1, 7, 2);
        x.pay(999, 6, 1, 2, 8, 3);
        e.all("the same again", Due.STATE, x.pay(0, 5, 0, 1, 7, 2), x.pay(999, 6, 1, 2, 8, 3));
        e.all("its tag alone", Due.STATE, x.pay(0, 50, 3, 4, 70, 1), x.pay(999, 0, 3, 4, 70, 1));
        e.row("it stays as it was", Edges.told(x, 0), 0, 5, 0, 1, 7, 2, Due.NONE);
        e.row("it stays as it was", Edges.told(x, 999), 1, 6, 1, 2, 8, 3, Due.NONE);
        e.is("all but its tag", x.pay(1, 5, 0, 1, 7, 2), 2);
        e.of(6, "the first of these that fits: BAD");
        e.all("BAD ahead of STATE", Due.BAD, x.pay(0, -1, 0, 1, 7, 2), x.pay(0, 5, 0, 0, 7, 2), x.pay(0, 5, 0, 1, 0, 2), x.pay(0, 5, 0, 1, 7, 4));
    }

    private void full() {
        e.of(6, "FULL: 120");
        OddPayments x = new OddPayments();
        for (int i = 0; i < 120; i++) {
            e.is("number " + i, x.pay(999 - i, 7 * i % 50, i % 20, (i + 1) % 20, i + 1, i % 4), i);
        }
        e.all("the 121st", Due.FULL, x.pay(0, 0, 0, 1, 1, 0), x.pay(1, 100000, 0, 1, 1, 0), x.pay(879, 0, 0, 1, 1, 0));
        e.row("none came", Edges.r(x.count(1), x.told(0, 0), x.order(120)), 120, Due.BAD, Due.NONE);
        e.of(6, "the first of these that fits: BAD");
        e.all("STATE ahead of FULL", Due.STATE, x.pay(999, 0, 0, 1, 1, 0), x.pay(880, 0, 0, 1, 1, 0));
        e.all("BAD ahead of FULL", Due.BAD, x.pay(0, 0, 0, 1, 1, 4), x.pay(1000, 0, 0, 1, 1, 0), x.pay(-1, 0, 0, 1, 1, 0));
        e.of(6, "120 at most");
        for (int i = 0; i < 120; i++) {
            e.is("each is there", x.told(999 - i, 0), i);
        }
        int before = -1;
        for (int i = 0; i < 120; i++) {
            int tag = x.order(i);
            int place = (999 - tag) * 7 % 50 * 1000 + tag;
            e.is("in order", place > before ? 1 : 0, 1);
            before = place;
        }
    }

    /** A payment of its own for each k, all of whose figures fit into bytes. */
    private static void layOne(OddPayments x, int sheet, int at, int k) {
        Edges.lay(x, sheet, at, 10 + k, 5 * k, k % 20, (k + 1) % 20, 1 + k, k % 4);
    }

    private void batchOfOneToTwenty() {
        e.of(7, "n PAYMENTS (1 to 20) come");
        OddPayments x = new OddPayments();
        x.sheet(0, 2, 120);
        for (int k = 0; k < 20; k++) {
            layOne(x, 0, 6 * k, k);
        }
        e.all("BAD", Due.BAD, x.batch(0, 0, 0), x.batch(0, 0, -1), x.batch(0, 0, 21), x.batch(0, 0, Due.LEAST), x.batch(0, 0, Due.MOST));
        e.is("none came", x.count(1), 0);
        e.is("one", x.batch(0, 6, 1), 1);
        e.row("it and no other", Edges.r(x.told(11, 0), x.told(10, 0), x.told(12, 0)), 0, Due.BAD, Due.BAD);
        e.is("twenty, less the doubled one", x.batch(0, 0, 20), 19);
        e.of(7, "six ITEMS each of a SHEET from i on: TAG, time, PAYER, PAYEE, amount, sort: how many came");
        for (int k = 0; k < 20; k++) {
            e.row("number " + k, Edges.told(x, 10 + k), k == 1 ? 0 : k == 0 ? 1 : k, 5 * k, k % 20, (k + 1) % 20, 1 + k, k % 4, Due.NONE);
        }
        e.is("they are still there, all of them doubled", x.batch(0, 0, 20), 0);
    }

    private void batchToTheEnd() {
        e.of(7, "six ITEMS each of a SHEET from i on");
        OddPayments x = new OddPayments();
        x.sheet(0, 2, 15);
        layOne(x, 0, 3, 1);
        layOne(x, 0, 9, 2);
        e.all("one place too far", Due.PLACE, x.batch(0, 4, 2), x.batch(0, 10, 1), x.batch(0, 0, 3));
        e.is("to the very end", x.batch(0, 9, 1), 1);
        e.is("two, to the very end", x.batch(0, 3, 2), 1);
        x.sheet(1, 2, 6);
        layOne(x, 1, 0, 3);
        e.is("all of a small one", x.batch(1, 0, 1), 1);
    }

    private void batchPassesOverBad() {
        e.of(7, "those that would be BAD, STATE, FULL are passed over");
        int[][] bad = {{-1, 5, 0, 1, 7, 0}, {1000, 5, 0, 1, 7, 0}, {3, -1, 0, 1, 7, 0}, {3, 100001, 0, 1, 7, 0}, {3, 5, -1, 1, 7, 0}, {3, 5, 20, 1, 7, 0},
            {3, 5, 0, -1, 7, 0}, {3, 5, 0, 20, 7, 0}, {3, 5, 4, 4, 7, 0}, {3, 5, 0, 1, 0, 0}, {3, 5, 0, 1, 100001, 0}, {3, 5, 0, 1, 7, -1}, {3, 5, 0, 1, 7, 4}};
        for (int[] one : bad) {
            OddPayments x = new OddPayments();
            x.sheet(0, 2, 18);
            layOne(x, 0, 0, 1);
            Edges.lay(x, 0, 6, one);
            layOne(x, 0, 12, 2);
            e.is("between two good ones", x.batch(0, 0, 3), 2);
            e.row("the good ones", Edges.r(x.told(11, 0), x.told(12, 0), x.told(3, 0), x.count(1)), 0, 1, Due.BAD, 2);
            e.is("alone", x.batch(0, 6, 1), 0);
            e.is("passing over is no finding", x.status(), 0);
        }
    }

    private void batchPassesOverDoubled() {
        e.of(7, "those that would be BAD, STATE, FULL are passed over");
        OddPayments x = new OddPayments();
        x.sheet(0, 2, 24);
        x.pay(12, 9, 7, 8, 9, 1);
        layOne(x, 0, 0, 1);
        layOne(x, 0, 6, 2);
        Edges.lay(x, 0, 12, 11, 9, 9, 8, 9, 3);
        layOne(x, 0, 18, 3);
        e.is("one doubled by pay, one within the batch", x.batch(0, 0, 4), 2);
        e.row("the first stays", Edges.told(x, 11), 1, 5, 1, 2, 2, 1, Due.NONE);
        e.row("the first stays", Edges.told(x, 12), 0, 9, 7, 8, 9, 1, Due.NONE);
        e.is("the last", x.told(13, 0), 2);
        e.is("passing over is no finding", x.status(), 0);
    }

    private void batchTillFull() {
        e.of(7, "those that would be BAD, STATE, FULL are passed over");
        OddPayments x = new OddPayments();
        for (int i = 0; i < 118; i++) {
            x.pay(100 + i, i, 0, 1, 1, 0);
        }
        x.sheet(0, 2, 24);
        layOne(x, 0, 0, 1);
        layOne(x, 0, 6, 2);
        layOne(x, 0, 12, 3);
        layOne(x, 0, 18, 4);
        e.is("two of four", x.batch(0, 0, 4), 2);
        e.row("the first two", Edges.r(x.told(11, 0), x.told(12, 0), x.told(13, 0), x.told(14, 0), x.count(1)), 118, 119, Due.BAD, Due.BAD, 120);
        e.is("none of four", x.batch(0, 0, 4), 0);
        e.is("passing over is no finding", x.status(), 0);
    }

    private void batchOfSmallLanes() {
        e.of(7, "six ITEMS each of a SHEET from i on");
        OddPayments x = new OddPayments();
        x.sheet(0, 0, 6);
        Edges.lay(x, 0, 0, 127, 127, 19, 18, 127, 3);
        e.is("of bytes", x.batch(0, 0, 1), 1);
        e.row("of bytes", Edges.told(x, 127), 0, 127, 19, 18, 127, 3, Due.NONE);
        x.set(0, 0, 128);
        e.is("a tag that is below 0 as a byte", x.batch(0, 0, 1), 0);
        x.sheet(1, 1, 6);
        Edges.lay(x, 1, 0, 999, 32767, 0, 19, 32767, 0);
        e.is("of shorts", x.batch(1, 0, 1), 1);
        e.row("of shorts", Edges.told(x, 999), 1, 32767, 0, 19, 32767, 0, Due.NONE);
        Edges.lay(x, 1, 0, 998, 32768, 0, 19, 32767, 0);
        e.is("a time that is below 0 as a short", x.batch(1, 0, 1), 0);
    }

    private void batchRefused() {
        OddPayments x = new OddPayments();
        x.sheet(0, 2, 120);
        x.sheet(1, 2, 0);
        x.sheet(2, 2, 5);
        e.of(7, "BAD: SHEET, n");
        e.all("sheet", Due.BAD, x.batch(-1, 0, 1), x.batch(8, 0, 1), x.batch(Due.LEAST, 0, 1), x.batch(Due.MOST, 0, 1));
        e.all("BAD ahead of NULL", Due.BAD, x.batch(3, 0, 0), x.batch(3, 0, 21));
        e.all("BAD ahead of PLACE", Due.BAD, x.batch(0, -1, 0), x.batch(0, 120, 21), x.batch(1, 0, 0));
        e.of(7, "NULL");
        e.all("missing", Due.NULL, x.batch(3, 0, 1), x.batch(7, 0, 20));
        e.all("NULL ahead of PLACE", Due.NULL, x.batch(3, -1, 1), x.batch(3, 121, 1));
        e.of(7, "PLACE");
        e.all("i below 0", Due.PLACE, x.batch(0, -1, 1), x.batch(0, -6, 1), x.batch(0, -1, 20), x.batch(0, Due.LEAST, 1));
        e.all("beyond", Due.PLACE, x.batch(0, 115, 1), x.batch(0, 1, 20), x.batch(0, 120, 1), x.batch(0, 121, 1), x.batch(0, Due.MOST, 1), x.batch(0, Due.MOST, 20), x.batch(0, Due.MOST - 5, 1));
        e.all("small ones", Due.PLACE, x.batch(1, 0, 1), x.batch(2, 0, 1));
        e.all("just there", 0, x.batch(0, 114, 1), x.batch(0, 0, 20), x.batch(0, 0, 1));
        e.is("none came", x.count(1), 0);
    }

    private void told() {
        e.of(8, "0 number, 1 time, 2 PAYER, 3 PAYEE, 4 amount, 5 sort, 6 VERDICT (NONE)");
        OddPayments x = new OddPayments();
        x.pay(999, 1, 3, 4, 5, 3);
        x.pay(0, 100000, 19, 0, 100000, 2);
        e.row("without a verdict", Edges.told(x, 0), 1, 100000, 19, 0, 100000, 2, Due.NONE);
        x.verdict(0, 0);
        e.row("honest", Edges.r(x.told(0, 6), x.told(999, 6)), 0, Due.NONE);
        x.verdict(0, 1);
        e.row("odd, the last one counts", Edges.r(x.told(0, 6), x.told(999, 6)), 1, Due.NONE);
    }

    private void toldRefused() {
        e.of(8, "BAD");
        OddPayments x = new OddPayments();
        e.all("there is none", Due.BAD, x.told(0, 0), x.told(999, 6));
        x.pay(0, 1, 3, 4, 5, 1);
        x.pay(999, 1, 3, 4, 5, 1);
        e.all("what", Due.BAD, x.told(0, -1), x.told(0, 7), x.told(0, Due.LEAST), x.told(0, Due.MOST));
        e.all("tag", Due.BAD, x.told(-1, 0), x.told(1000, 0), x.told(1, 0), x.told(998, 0), x.told(Due.LEAST, 0), x.told(Due.MOST, 0));
        e.is("both", x.told(-1, 7), Due.BAD);
    }

    private void order() {
        e.of(9, "ORDER: by times, of one time by TAGS");
        OddPayments x = new OddPayments();
        x.pay(7, 50, 0, 1, 1, 0);
        x.pay(999, 49, 0, 1, 1, 0);
        x.pay(0, 51, 0, 1, 1, 0);
        x.pay(6, 50, 0, 1, 1, 0);
        x.pay(8, 50, 0, 1, 1, 0);
        x.pay(5, 100000, 0, 1, 1, 0);
        x.pay(998, 0, 0, 1, 1, 0);
        e.row("of one time", Edges.r(x.order(2), x.order(3), x.order(4)), 6, 7, 8);
        e.row("of other times", Edges.r(x.order(0), x.order(1), x.order(5), x.order(6)), 998, 999, 0, 5);
        e.of(9, "The TAG of the i-th PAYMENT in ORDER");
        x.pay(4, 100000, 0, 1, 1, 0);
        x.pay(997, 0, 0, 1, 1, 0);
        e.row("first and last ones that come late", Edges.r(x.order(0), x.order(1), x.order(7), x.order(8)), 997, 998, 4, 5);
    }

    private void numbersGoFromZeroOn() {
        e.of(9, "Numbers go from 0 on");
        OddPayments x = new OddPayments();
        Due.read(x, "look 0;");
        e.is("the first sheet", x.sheet(0, 0, 1), 1);
        e.is("the first item", x.set(0, 0, 5), 5);
        e.is("the first payment", x.pay(7, 50, 0, 1, 1, 0), 0);
        e.is("the first in order", x.order(0), 7);
        e.is("the first in the queue", x.queue(0), 7);
        x.ask(7, 0);
        e.is("the first in the trace", x.trace(0), 11);
    }

    private void orderOfNoneSuch() {
        e.of(9, "NONE: there are not so many");
        OddPayments x = new OddPayments();
        e.is("of none", x.order(0), Due.NONE);
        x.pay(7, 50, 0, 1, 1, 0);
        e.row("of one", Edges.r(x.order(0), x.order(1), x.order(119), x.order(120), x.order(Due.MOST)), 7, Due.NONE, Due.NONE, Due.NONE, Due.NONE);
        e.all("below 0", Due.NONE, x.order(-1), x.order(Due.LEAST));
    }

    private void mark() {
        e.of(10, "Someone is MARKED (on = 1), is not (0): 1");
        for (int who = 0; who < 20; who++) {
            OddPayments x = new OddPayments();
            e.is("marked", x.mark(who, 1), 1);
            e.is("count(5)", x.count(5), 1);
            e.of(10, "0: it was so");
            e.is("again", x.mark(who, 1), 0);
            e.is("count(5)", x.count(5), 1);
            for (int other = 0; other < 20; other++) {
                e.is("others are not", other == who ? 0 : x.mark(other, 0), 0);
            }
            e.is("no more", x.mark(who, 0), 1);
            e.is("count(5)", x.count(5), 0);
            e.is("no more, again", x.mark(who, 0), 0);
        }
        OddPayments x = new OddPayments();
        for (int who = 0; who < 20; who++) {
            x.mark(who, 1);
        }
        e.row("all of them", Edges.r(x.count(5), x.mark(0, 0), x.mark(19, 0), x.count(5), x.mark(1, 1)), 20, 1, 1, 18, 0);
    }

    private void markRefused() {
        e.of(10, "BAD");
        OddPayments x = new OddPayments();
        x.mark(3, 1);
        e.all("who", Due.BAD, x.mark(-1, 1), x.mark(20, 1), x.mark(32, 1), x.mark(35, 0), x.mark(Due.LEAST, 0), x.mark(Due.MOST, 1));
        e.all("on", Due.BAD, x.mark(3, -1), x.mark(3, 2), x.mark(4, 2), x.mark(4, -1), x.mark(3, Due.LEAST), x.mark(4, Due.MOST));
        e.row("nothing changed", Edges.r(x.count(5), x.mark(3, 1), x.mark(4, 0)), 1, 0, 0);
    }
}
