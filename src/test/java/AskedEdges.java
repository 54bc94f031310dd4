/** Edges of the promises 29 to 34. */
final class AskedEdges {
    private final Edges e;

    AskedEdges(Edges e) {
        this.e = e;
    }

    void run() {
        kindOfAPayment();
        kindOfHeldOnes();
        kindOfClearedOnes();
        kindAsKnown();
        kindRefused();
        as();
        asRefused();
        askOfAPayment();
        askOfHeldOnes();
        askOfStoppedOnes();
        askOfClearedOnes();
        askCutsTowardsZero();
        askRefused();
        traceIsEmptyAhead();
        traceOfNone();
        countOfEach();
        countOfFullOnes();
        countRefused();
        statusOfEachFinding();
        statusOfNoFinding();
        statusOfRefusedCalls();
        statusOfOtherCalls();
    }

    /** Sorts 0 to 3 have the scores 0, 4, 9 and 1000; a look is at 4, a block at 9; tags as sorts, payers 10 above them. */
    private static OddPayments kinds() {
        OddPayments x = new OddPayments();
        Due.read(x, "look 4;block 9;rule 4 if sort=1;rule 9 if sort=2;rule 1000 if sort=3;");
        x.pay(900, 50, 19, 0, 1, 0);
        for (int sort = 0; sort < 4; sort++) {
            x.pay(sort, 10 + sort, 10 + sort, sort, 70, sort);
        }
        return x;
    }

    private static long[] kindsOf(OddPayments x) {
        return Edges.r(x.kind(0), x.kind(1), x.kind(2), x.kind(3));
    }

    private void kindOfAPayment() {
        e.of(29, "KINDS of PAYMENTS: 0 PAYMENT");
        OddPayments x = kinds();
        e.row("kinds", kindsOf(x), 0, 1, 2, 2);
        x.verdict(0, 1);
        e.is("odd and passed", x.kind(0), 0);
        e.of(29, "The KIND of a PAYMENT by its TAG, as it is told");
        x.rules();
        e.row("no rules", kindsOf(x), 0, 0, 0, 0);
    }

    private void kindOfHeldOnes() {
        e.of(29, "1 HELD, a PAYMENT: LOOKED AT or BLOCKED");
        OddPayments x = kinds();
        Due.read(x, "look 5;block 9;rule 4 if sort=1;rule 5 if sort=2;rule 8 if sort=3;");
        e.row("4, 5 and 8 by 5 and 9", kindsOf(x), 0, 0, 1, 1);
        e.of(29, "2 STOPPED, a HELD one: BLOCKED");
        Due.read(x, "look 5;block 8;rule 4 if sort=1;rule 7 if sort=2;rule 8 if sort=3;");
        e.row("4, 7 and 8 by 5 and 8", kindsOf(x), 0, 0, 1, 2);
        Due.read(x, "look 9;block 8;rule 4 if sort=1;rule 7 if sort=2;rule 8 if sort=3;");
        e.row("4, 7 and 8 by 9 and 8", kindsOf(x), 0, 0, 0, 2);
        Due.read(x, "look 0;block 1;");
        e.row("all are looked at", kindsOf(x), 1, 1, 1, 1);
        Due.read(x, "block 0;");
        e.row("all are blocked", kindsOf(x), 2, 2, 2, 2);
    }

    private void kindOfClearedOnes() {
        e.of(29, "3 CLEARED, a PAYMENT: its VERDICT is honest");
        OddPayments x = kinds();
        for (int tag = 0; tag < 4; tag++) {
            x.verdict(tag, 1);
        }
        e.row("odd ones", kindsOf(x), 0, 1, 2, 2);
        e.of(29, "It is told as the first that fits of CLEARED, STOPPED, HELD, PAYMENT, AS KNOWN 0");
        for (int tag = 0; tag < 4; tag++) {
            x.verdict(tag, 0);
        }
        e.row("honest ones", kindsOf(x), 3, 3, 3, 3);
        x.verdict(2, 1);
        e.row("no more", kindsOf(x), 3, 3, 2, 3);
    }

    private void kindAsKnown() {
        e.of(29, "HELD, PAYMENT, AS KNOWN 0");
        OddPayments x = new OddPayments();
        Due.read(x, "look 1;block 2;rule 1 if count>0;");
        x.pay(5, 50, 0, 1, 30, 2);
        e.row("before", Edges.r(x.kind(5), x.ask(5, 0)), 0, 30);
        x.pay(4, 49, 0, 1, 30, 2);
        e.row("one that came late, ahead", Edges.r(x.kind(5), x.judged(5, 1, 1), x.ask(5, 0), x.as(5, 1)), 1, 0, 29, 0);
    }

    private void kindRefused() {
        e.of(29, "BAD");
        OddPayments x = new OddPayments();
        e.is("there is none", x.kind(0), Due.BAD);
        x.pay(0, 5, 0, 1, 7, 2);
        x.pay(999, 5, 0, 1, 7, 2);
        e.all("tag", Due.BAD, x.kind(-1), x.kind(1), x.kind(998), x.kind(1000), x.kind(Due.LEAST), x.kind(Due.MOST));
        e.all("there are", 0, x.kind(0), x.kind(999));
    }

    private void as() {
        e.of(30, "A PAYMENT is taken as one of a KIND (0 .. 3): its number");
        OddPayments x = kinds();
        x.verdict(3, 0);
        e.row("each as what it is told as", Edges.r(x.as(0, 0), x.as(1, 1), x.as(2, 2), x.as(3, 3)), 1, 2, 3, 4);
        e.row("each as a payment", Edges.r(x.as(0, 0), x.as(1, 0), x.as(2, 0), x.as(3, 0)), 1, 2, 3, 4);
        e.of(30, "KIND: it is not told as that (STOPPED ones are HELD, too)");
        e.is("a stopped one as held", x.as(2, 1), 3);
        e.all("a plain one", Due.KIND, x.as(0, 1), x.as(0, 2), x.as(0, 3));
        e.all("a held one", Due.KIND, x.as(1, 2), x.as(1, 3));
        e.is("a stopped one", x.as(2, 3), Due.KIND);
        e.all("a cleared one, though it is blocked", Due.KIND, x.as(3, 1), x.as(3, 2));
        x.verdict(1, 0);
        e.all("a cleared one, though it is looked at", Due.KIND, x.as(1, 1), x.as(1, 2));
        x.verdict(1, 1);
        e.row("an odd one", Edges.r(x.as(1, 1), x.as(1, 3)), 2, Due.KIND);
        e.of(30, "3 KIND (a PAYMENT that is not that)");
        e.is("the number", x.as(0, 3), -1000013);
        e.is("status()", x.status(), 3);
    }

    private void asRefused() {
        e.of(30, "BAD");
        OddPayments x = new OddPayments();
        e.is("there is none", x.as(0, 0), Due.BAD);
        x.pay(0, 5, 0, 1, 7, 2);
        x.pay(999, 5, 0, 1, 7, 2);
        e.all("kind", Due.BAD, x.as(0, -1), x.as(0, 4), x.as(0, Due.LEAST), x.as(0, Due.MOST));
        e.all("tag", Due.BAD, x.as(-1, 0), x.as(1, 0), x.as(998, 0), x.as(1000, 0), x.as(Due.LEAST, 3), x.as(Due.MOST, 0));
        e.row("there are", Edges.r(x.as(0, 0), x.as(999, 0)), 0, 1);
    }

    private void asked(OddPayments x, int tag, int what, int want, int... bodies) {
        e.is("ask(" + tag + ", " + what + ")", x.ask(tag, what), want);
        for (int i = 0; i < 17; i++) {
            e.is("ask(" + tag + ", " + what + "), trace(" + i + ")", x.trace(i), i < bodies.length ? bodies[i] : Due.NONE);
        }
    }

    private void askOfAPayment() {
        OddPayments x = kinds();
        e.of(31, "0 WORTH: 10 lent to all PAYMENTS: amount");
        asked(x, 0, 0, 70, 10);
        x.pay(500, 0, 0, 1, 100000, 0);
        asked(x, 500, 0, 100000, 10);
        e.of(31, "1 MARK: 20 lent to all PAYMENTS: the sort");
        asked(x, 0, 1, 0, 20);
        x.rules();
        asked(x, 3, 1, 3, 20);
        e.of(31, "else the one that is lent");
        x.verdict(3, 1);
        asked(x, 3, 0, 70, 10);
    }

    private void askOfHeldOnes() {
        OddPayments x = kinds();
        e.of(31, "11 of HELD ones: what 10 gives, less SCORE");
        asked(x, 1, 0, 66, 11, 10);
        e.of(31, "21 of HELD ones: what 20 gives, and WORTH");
        asked(x, 1, 1, 1 + 66, 21, 20, 11, 10);
        Due.read(x, "look 0;");
        e.of(31, "11 of HELD ones");
        asked(x, 0, 0, 70, 11, 10);
        e.of(31, "21 of HELD ones");
        asked(x, 0, 1, 70, 21, 20, 11, 10);
    }

    private void askOfStoppedOnes() {
        OddPayments x = kinds();
        e.of(31, "12 of STOPPED ones: what 11 gives, by 2");
        asked(x, 2, 0, 30, 12, 11, 10);
        e.of(31, "22 of STOPPED ones: what 21 gives, and 100");
        asked(x, 2, 1, 2 + 30 + 100, 22, 21, 20, 12, 11, 10);
        e.of(31, "WORTH, MARK within others are asked of the same PAYMENT anew");
        asked(x, 3, 1, 3 - 465 + 100, 22, 21, 20, 12, 11, 10);
        e.of(31, "(Of an ask the BODY told for the KIND begins");
        x.verdict(2, 1);
        asked(x, 2, 0, 30, 12, 11, 10);
    }

    private void askOfClearedOnes() {
        OddPayments x = kinds();
        for (int tag = 0; tag < 4; tag++) {
            x.verdict(tag, 0);
        }
        e.of(31, "13 of CLEARED ones: what 10 gives, and MARK");
        for (int tag = 0; tag < 4; tag++) {
            asked(x, tag, 0, 70 + tag + 10 + tag, 13, 10, 23, 20);
        }
        e.of(31, "23 of CLEARED ones: what 20 gives, and the PAYER");
        for (int tag = 0; tag < 4; tag++) {
            asked(x, tag, 1, tag + 10 + tag, 23, 20);
        }
        e.of(31, "by this it is asked");
        x.verdict(2, 1);
        asked(x, 2, 0, 30, 12, 11, 10);
    }

    private void askCutsTowardsZero() {
        e.of(31, "All that is divided is cut towards 0");
        OddPayments x = new OddPayments();
        Due.read(x, "look 0;block 1;rule 10 if sort=1;rule 11 if sort=2;rule 1000 if sort=3;");
        x.pay(1, 1, 0, 1, 7, 1);
        x.pay(2, 1, 0, 1, 8, 2);
        x.pay(3, 1, 0, 1, 1, 3);
        x.pay(4, 1, 0, 1, 11, 1);
        x.pay(5, 1, 0, 1, 10, 2);
        e.row("-3, -3, -999, 1, -1 by 2", Edges.r(x.ask(1, 0), x.ask(2, 0), x.ask(3, 0), x.ask(4, 0), x.ask(5, 0)), -1, -1, -499, 0, 0);
        e.row("and marks", Edges.r(x.ask(1, 1), x.ask(2, 1), x.ask(3, 1), x.ask(4, 1), x.ask(5, 1)), 100, 101, -396, 101, 102);
    }

    private void askRefused() {
        OddPayments x = kinds();
        e.of(31, "BAD");
        e.all("what", Due.BAD, x.ask(0, -1), x.ask(0, 2), x.ask(0, Due.LEAST), x.ask(0, Due.MOST));
        e.all("tag", Due.BAD, x.ask(-1, 0), x.ask(4, 0), x.ask(899, 1), x.ask(1000, 0), x.ask(Due.LEAST, 0), x.ask(Due.MOST, 0));
        e.of(31, "An ASK (0, 1) of a PAYMENT");
        e.row("both", Edges.r(x.ask(0, 0), x.ask(0, 1)), 70, 0);
    }

    private void traceIsEmptyAhead() {
        e.of(31, "THE TRACE is empty ahead of it");
        OddPayments x = kinds();
        asked(x, 2, 1, 132, 22, 21, 20, 12, 11, 10);
        asked(x, 0, 0, 70, 10);
        asked(x, 2, 0, 30, 12, 11, 10);
        e.of(31, "What is refused, or found, changes nothing but status()");
        x.ask(2, 2);
        x.ask(77, 0);
        e.row("refused asks leave it", Edges.r(x.trace(0), x.trace(1), x.trace(2), x.trace(3)), 12, 11, 10, Due.NONE);
        e.of(32, "each of which leaves its number in THE TRACE as it begins (the first 16)");
        for (int i = 0; i < 20; i++) {
            x.ask(2, 1);
        }
        e.row("twenty asks: the last alone", Edges.r(x.trace(0), x.trace(5), x.trace(6), x.trace(15), x.trace(16)), 22, 10, Due.NONE, Due.NONE, Due.NONE);
    }

    private void traceOfNone() {
        e.of(32, "NONE");
        OddPayments x = kinds();
        e.all("no ask yet", Due.NONE, x.trace(0), x.trace(1), x.trace(15), x.trace(16), x.trace(-1), x.trace(Due.LEAST), x.trace(Due.MOST));
        x.kind(2);
        x.as(2, 2);
        e.is("kind and as are no asks", x.trace(0), Due.NONE);
        e.of(32, "Number i of THE TRACE");
        x.ask(2, 0);
        e.row("after one", Edges.r(x.trace(-1), x.trace(0), x.trace(1), x.trace(2), x.trace(3), x.trace(Due.LEAST), x.trace(Due.MOST)), Due.NONE, 12, 11, 10, Due.NONE, Due.NONE, Due.NONE);
    }

    private static long[] counts(OddPayments x) {
        return Edges.r(x.count(0), x.count(1), x.count(2), x.count(3), x.count(4), x.count(5), x.count(6), x.count(7));
    }

    private void countOfEach() {
        e.of(33, "How many: 0 SHEETS, 1 PAYMENTS, 2 RULES, 3 VERDICTS, 4 odd ones, 5 MARKED people, 6 in THE QUEUE, 7 bytes on the tape");
        OddPayments x = new OddPayments();
        e.row("at first", counts(x), 0, 0, 0, 0, 0, 0, 0, 0);
        x.sheet(3, 0, 0);
        e.row("a sheet without items", counts(x), 1, 0, 0, 0, 0, 0, 0, 0);
        Due.read(x, "look 1;block 2;rule 1 if sort=0;");
        e.row("a rule", counts(x), 1, 0, 1, 0, 0, 0, 0, 0);
        x.pay(1, 1, 0, 1, 1, 0);
        x.pay(2, 1, 0, 1, 1, 0);
        x.pay(3, 1, 0, 1, 1, 0);
        e.row("payments", counts(x), 1, 3, 1, 0, 0, 0, 3, 0);
        x.verdict(1, 0);
        e.row("an honest one", counts(x), 1, 3, 1, 1, 0, 0, 2, 0);
        x.verdict(2, 1);
        e.row("an odd one", counts(x), 1, 3, 1, 2, 1, 0, 1, 0);
        x.verdict(2, 1);
        x.verdict(1, 1);
        e.row("the last one counts", counts(x), 1, 3, 1, 2, 2, 0, 1, 0);
        x.mark(0, 1);
        x.mark(19, 1);
        e.row("marks", counts(x), 1, 3, 1, 2, 2, 2, 1, 0);
        x.feed(0x20202020202020L, 7);
        e.row("bytes", counts(x), 1, 3, 1, 2, 2, 2, 1, 7);
        x.mark(0, 0);
        x.rules();
        x.drop(3);
        x.verdict(1, 0);
        e.row("fewer", counts(x), 0, 3, 0, 2, 1, 1, 0, 0);
    }

    private void countOfFullOnes() {
        e.of(33, "How many: 0 SHEETS, 1 PAYMENTS, 2 RULES");
        OddPayments x = new OddPayments();
        Due.read(x, "look 0;" + "rule 1 if sort=9;".repeat(12));
        for (int i = 0; i < 120; i++) {
            x.pay(i, i, 0, 1, 1, 0);
        }
        for (int i = 0; i < 20; i++) {
            x.mark(i, 1);
            x.sheet(i % 8, 0, 1);
        }
        for (int i = 0; i < 75; i++) {
            x.feed(0, 8);
        }
        e.row("as many as there can be", counts(x), 8, 120, 12, 0, 0, 20, 120, 600);
        for (int i = 0; i < 120; i++) {
            x.verdict(i, 1);
        }
        e.row("all are odd", counts(x), 8, 120, 12, 120, 120, 20, 0, 600);
    }

    private void countRefused() {
        e.of(33, "BAD");
        OddPayments x = new OddPayments();
        e.all("what", Due.BAD, x.count(-1), x.count(8), x.count(Due.LEAST), x.count(Due.MOST));
    }

    // ---- status

    /** Sheet 0 is of bytes, sheet 1 of ints, both of six items; the payment 1 is a plain one. */
    private static OddPayments hurt(int finding) {
        OddPayments x = new OddPayments();
        x.sheet(0, 0, 6);
        x.sheet(1, 2, 6);
        x.pay(1, 1, 0, 1, 1, 0);
        switch (finding) {
            case 1: x.drop(7); break;
            case 2: x.set(0, 6, 0); break;
            case 3: x.as(1, 1); break;
            case 4: x.sheet(2, 0, -1); break;
            default: x.copy(0, 0, 1, 0, 0); break;
        }
        return x;
    }

    private void statusOfEachFinding() {
        e.of(34, "Of the latest call with a SHEET, or as(), that was not BAD, STATE, FULL: the number of its FINDING");
        for (int finding = 1; finding <= 5; finding++) {
            OddPayments x = hurt(finding);
            e.row("finding " + finding + ", and again", Edges.r(x.status(), x.status()), finding, finding);
        }
        OddPayments x = hurt(4);
        e.row("NULL by each", Edges.r(x.set(7, 0, 0), x.status(), x.sheet(2, 0, -1), x.copy(0, 0, 7, 0, 0), x.status(), x.sheet(2, 0, -1), x.drop(7), x.status(),
                x.sheet(2, 0, -1), x.batch(7, 0, 1), x.status()), Due.NULL, 1, Due.SIZE, Due.NULL, 1, Due.SIZE, Due.NULL, 1, Due.SIZE, Due.NULL, 1);
        e.row("PLACE by each", Edges.r(x.set(0, 6, 0), x.status(), x.drop(7), x.copy(0, 0, 0, 1, 6), x.status(), x.drop(7), x.batch(0, 1, 1), x.status()),
                Due.PLACE, 2, Due.NULL, Due.PLACE, 2, Due.NULL, Due.PLACE, 2);
        e.row("the others", Edges.r(x.as(1, 3), x.status(), x.copy(1, 0, 0, 0, 0), x.status(), x.sheet(0, 1, -9), x.status()), Due.KIND, 3, Due.STORE, 5, Due.SIZE, 4);
    }

    private void statusOfNoFinding() {
        e.of(34, "0: it had none, or there was none");
        e.is("a new object", new OddPayments().status(), 0);
        for (int finding = 1; finding <= 5; finding++) {
            OddPayments x = hurt(finding);
            e.row("sheet", Edges.r(x.sheet(3, 0, 0), x.status()), 0, 0);
            x = hurt(finding);
            e.row("set", Edges.r(x.set(0, 0, 5), x.status()), 5, 0);
            x = hurt(finding);
            e.row("copy", Edges.r(x.copy(0, 0, 0, 0, 0), x.status()), 0, 0);
            x = hurt(finding);
            e.row("drop", Edges.r(x.drop(0), x.status()), 6, 0);
            x = hurt(finding);
            e.row("batch, though none came", Edges.r(x.batch(1, 0, 1), x.status()), 0, 0);
            x = hurt(finding);
            e.row("as", Edges.r(x.as(1, 0), x.status()), 0, 0);
        }
    }

    private void statusOfRefusedCalls() {
        e.of(34, "that was not BAD, STATE, FULL");
        for (int finding = 1; finding <= 5; finding++) {
            OddPayments x = hurt(finding);
            e.all("BAD", Due.BAD, x.sheet(8, 0, 1), x.sheet(0, 3, 1), x.sheet(0, 0, 121), x.set(8, 0, 0), x.copy(8, 0, 0, 0, 0), x.copy(0, 0, 8, 0, 0), x.drop(8),
                    x.batch(8, 0, 1), x.batch(0, 0, 0), x.batch(0, 0, 21), x.as(2, 0), x.as(1, 4), x.as(-1, 0));
            e.is("BAD leaves it", x.status(), finding);
            e.is("STATE", x.pay(1, 1, 0, 1, 1, 0), Due.STATE);
            e.is("STATE leaves it", x.status(), finding);
        }
        OddPayments x = new OddPayments();
        e.all("BAD at first", Due.BAD, x.sheet(8, 0, -1), x.set(8, 0, 0), x.copy(8, 0, 0, 0, 0), x.drop(8), x.batch(8, 0, 1), x.as(0, 0));
        e.is("there was none", x.status(), 0);
    }

    private void statusOfOtherCalls() {
        e.of(34, "Of the latest call with a SHEET, or as()");
        OddPayments x = hurt(2);
        x.pay(2, 1, 0, 1, 1, 0);
        x.pay(2, 1, 0, 1, 1, 0);
        x.pay(2, 1, 0, 0, 1, 0);
        x.told(1, 0);
        x.order(0);
        x.mark(1, 1);
        x.feature(1, 0, 0);
        x.profile(1, 0);
        x.feed(' ', 1);
        x.rules();
        x.fault();
        x.rule(0);
        x.judged(1, 0, 0);
        x.would(1, 1);
        x.acts(0);
        x.verdict(1, 0);
        x.queue(0);
        x.cost(0, 1);
        x.setting(0, 0);
        x.bestSetting(0);
        x.learnt(0);
        x.costs(0, 0);
        x.drift(0, 0, 1, 2, 0);
        x.counted(0, 1, 0);
        x.kind(1);
        x.ask(1, 0);
        x.trace(0);
        x.count(0);
        e.is("others leave it", x.status(), 2);
    }
}
