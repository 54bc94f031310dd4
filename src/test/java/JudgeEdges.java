/** Edges of the promises 17 to 19. */
final class JudgeEdges {
    private static final String HOLDS = " if sort=0;", HOLDS_NOT = " if sort=1;";

    private final Edges e;

    JudgeEdges(Edges e) {
        this.e = e;
    }

    void run() {
        testsAreStrict();
        allOfItsTests();
        scoreOfNoneAndAll();
        setOfRules();
        blocked();
        lookedAt();
        passed();
        lookAboveBlock();
        whyOfTheFewest();
        whyOfTheLeastNumber();
        whyOfNone();
        whyOfAll();
        judgedAsKnown();
        judgedRefused();
        wouldAmounts();
        wouldNothingElse();
        wouldRefused();
        actsOfNone();
        actsOfSome();
        actsAsKnown();
        actsRefused();
    }

    /** A payment of amount 50, sort 0 and hour 4, under a text. */
    private static OddPayments under(String text) {
        OddPayments x = new OddPayments();
        x.pay(7, 100, 0, 1, 50, 0);
        Due.read(x, text);
        return x;
    }

    private static long[] judged(OddPayments x, int known) {
        return Edges.r(x.judged(7, known, 0), x.judged(7, known, 1), x.judged(7, known, 2), x.judged(7, known, 3));
    }

    private void testsAreStrict() {
        e.of(17, "( '<' | '>' | '=' )");
        e.is("amount 50 by 49, 50, 51: <", under("rule 1 if amount<49;rule 2 if amount<50;rule 4 if amount<51;").judged(7, 0, 0), 4);
        e.is("amount 50 by 49, 50, 51: >", under("rule 1 if amount>49;rule 2 if amount>50;rule 4 if amount>51;").judged(7, 0, 0), 1);
        e.is("amount 50 by 49, 50, 51: =", under("rule 1 if amount=49;rule 2 if amount=50;rule 4 if amount=51;").judged(7, 0, 0), 2);
        e.is("sort 0 by 0", under("rule 1 if sort<0;rule 2 if sort>0;rule 4 if sort=0;").judged(7, 0, 0), 4);
        e.of(17, "test: FEATURE (its name)");
        String[] names = {"amount", "sort", "hour", "count", "sum", "payees", "seen", "ratio", "far", "into"};
        OddPayments x = new OddPayments();
        Due.read(x, "window 50;");
        x.pay(1, 90, 0, 1, 8, 0);
        x.pay(2, 91, 0, 1, 12, 1);
        x.pay(3, 92, 0, 2, 16, 2);
        x.pay(4, 40, 0, 1, 20, 3);
        x.pay(5, 92, 9, 1, 24, 3);
        x.pay(8, 30, 1, 3, 28, 3);
        x.pay(9, 31, 3, 4, 32, 3);
        x.pay(10, 99, 8, 1, 9, 3);
        x.mark(4, 1);
        x.pay(7, 101, 0, 1, 50, 3);
        int[] values = {50, 3, 5, 3, 36, 2, 3, 555, 2, 4};
        for (int f = 0; f < 10; f++) {
            Due.read(x, "window 50;rule 1 if " + names[f] + "=" + values[f] + ";rule 2 if " + names[f] + ">" + (values[f] - 1) + ";rule 4 if " + names[f] + "<" + values[f] + ";");
            e.is(names[f], x.feature(7, f, 0), values[f]);
            e.is("by its name: " + names[f], x.judged(7, 0, 2), 3);
        }
    }

    private void allOfItsTests() {
        e.of(17, "RULES that hold (all of whose tests do)");
        String[] good = {"sort=0", "hour=4", "amount>49", "far=9"};
        for (int bad = 0; bad <= 4; bad++) {
            StringBuilder b = new StringBuilder("rule 5 if ");
            for (int i = 0; i < 4; i++) {
                b.append(i > 0 ? " and " : "").append(i == bad ? "sort=3" : good[i]);
            }
            e.is("the test that fails: " + bad, under(b + ";").judged(7, 0, 0), bad == 4 ? 5 : 0);
        }
        e.is("one of two", under("rule 5 if sort=0 and sort=1;rule 3 if sort=1 and sort=0;").judged(7, 0, 0), 0);
    }

    private void scoreOfNoneAndAll() {
        e.of(17, "SCORE of a PAYMENT: the WEIGHTS of all RULES that hold");
        e.row("no rules", judged(under(""), 0), 0, 0, 0, 0);
        e.row("none holds", judged(under("rule 1000" + HOLDS_NOT), 0), 0, 0, 0, 0);
        e.row("the least", judged(under("look 1;block 2;rule 1" + HOLDS), 0), 1, 1, 1, 1);
        e.row("the greatest", judged(under("look 12000;block 12001;" + ("rule 1000" + HOLDS).repeat(12)), 0), 12000, 1, 4095, 4095);
        e.is("the same rule twice counts twice", under(("rule 7" + HOLDS).repeat(2)).judged(7, 0, 0), 14);
    }

    private void setOfRules() {
        e.of(17, "(RULE k: 2 to the power k)");
        for (int k = 0; k < 12; k++) {
            StringBuilder b = new StringBuilder("look 1;block 9;");
            for (int i = 0; i < 12; i++) {
                b.append("rule 1").append(i == k ? HOLDS : HOLDS_NOT);
            }
            e.row("rule " + k + " alone", judged(under(b.toString()), 0), 1, 1, 1 << k, 1 << k);
        }
    }

    private void blocked() {
        e.of(17, "ACT: 2 BLOCKED, if SCORE is BLOCK or more");
        String rule = "rule 15" + HOLDS;
        e.row("score 15", Edges.r(under("block 14;" + rule).judged(7, 0, 1), under("block 15;" + rule).judged(7, 0, 1), under("block 16;" + rule).judged(7, 0, 1)), 2, 2, 1);
        e.row("a block of 0, a score of 0", judged(under("block 0;"), 0), 0, 2, 0, 0);
        e.is("a block of 1, a score of 0", under("look 0;block 1;").judged(7, 0, 1), 1);
        e.is("20, without one told", under("rule 20" + HOLDS).judged(7, 0, 1), 2);
        e.is("19", under("rule 19" + HOLDS).judged(7, 0, 1), 1);
        e.is("the greatest block is above all scores", under("look 20000;block 20000;" + ("rule 1000" + HOLDS).repeat(12)).judged(7, 0, 1), 0);
    }

    private void lookedAt() {
        e.of(17, "else 1 LOOKED AT, if it is LOOK or more");
        String rule = "rule 15" + HOLDS;
        e.row("score 15", Edges.r(under("look 14;" + rule).judged(7, 0, 1), under("look 15;" + rule).judged(7, 0, 1), under("look 16;" + rule).judged(7, 0, 1)), 1, 1, 0);
        e.row("a look of 0, a score of 0", judged(under("look 0;"), 0), 0, 1, 0, 0);
        e.is("10, without one told", under("rule 10" + HOLDS).judged(7, 0, 1), 1);
    }

    private void passed() {
        e.of(17, "else 0 PASSED");
        e.is("9 is below 10", under("rule 9" + HOLDS).judged(7, 0, 1), 0);
        e.is("a look of 1, a score of 0", under("look 1;").judged(7, 0, 1), 0);
    }

    private void lookAboveBlock() {
        e.of(17, "ACT: 2 BLOCKED, if SCORE is BLOCK or more");
        e.row("look above block", Edges.r(under("look 9;block 5;rule 4" + HOLDS).judged(7, 0, 1), under("look 9;block 5;rule 5" + HOLDS).judged(7, 0, 1),
                under("look 9;block 5;rule 9" + HOLDS).judged(7, 0, 1)), 0, 2, 2);
        e.row("look and block alike", Edges.r(under("look 5;block 5;rule 4" + HOLDS).judged(7, 0, 1), under("look 5;block 5;rule 5" + HOLDS).judged(7, 0, 1)), 0, 2);
    }

    private void whyIs(String limits, int want, int... weights) {
        StringBuilder b = new StringBuilder(limits);
        for (int w : weights) {
            b.append("rule ").append(Math.abs(w)).append(w > 0 ? HOLDS : HOLDS_NOT);
        }
        e.is(b.toString(), under(b.toString()).judged(7, 0, 3), want);
    }

    private void whyOfTheFewest() {
        e.of(17, "WHY: the fewest RULES that hold, whose WEIGHTS added are BLOCK (LOOK) or more");
        whyIs("look 5;block 99;", 1, 5);
        whyIs("look 5;block 99;", 2, 4, 5, 1);
        whyIs("look 5;block 99;", 4, 4, 1, 5);
        whyIs("look 6;block 99;", 3, 5, 1);
        whyIs("look 9;block 99;", 6, 1, 4, 5);
        whyIs("look 9;block 99;", 8, 1, 4, 5, 9);
        whyIs("look 9;block 99;", 6, 1, 4, 5, -9);
        whyIs("look 2;block 10;", 5, 6, 3, 4);
        whyIs("look 2;block 14;", 1, 6, 3, 4);
        whyIs("look 2;block 13;", 7, 6, 3, 4);
        whyIs("look 9;block 3;", 1, 6, 3, 4);
        whyIs("look 1;block 20000;", 2048, -1, -1, -1, -1, -1, -1, -1, -1, -1, -1, -1, 1);
    }

    private void whyOfTheLeastNumber() {
        e.of(17, "of several such sets that with the least number");
        whyIs("look 5;block 99;", 1, 5, 6, 7);
        whyIs("look 5;block 99;", 1, 7, 6, 5);
        whyIs("look 5;block 99;", 2, 4, 5, 9);
        whyIs("look 11;block 99;", 6, 4, 5, 6, 7);
        whyIs("look 11;block 99;", 3, 7, 4, 6, 5);
        whyIs("look 11;block 99;", 5, 5, 4, 6, 7);
        whyIs("look 12;block 99;", 12, 3, 3, 6, 6, 1);
        whyIs("look 13;block 99;", 13, 3, 3, 6, 6, 1);
        whyIs("look 18;block 99;", 14, 4, 5, 6, 7);
        whyIs("look 17;block 99;", 11, 5, 5, 6, 7);
        whyIs("look 2;block 99;", 3, 1, 1, 1, 1, 1, 1, 1, 1, 1, 1, 1, 1);
    }

    private void whyOfNone() {
        e.of(17, "0 of PASSED ones");
        whyIs("look 6;block 99;", 0, 5);
        whyIs("look 6;block 99;", 0, 5, -9);
        e.of(17, "the fewest RULES that hold");
        whyIs("look 0;block 99;", 0, 5, 6);
        whyIs("look 3;block 0;", 0, 5, 6);
    }

    private void whyOfAll() {
        e.of(17, "WHY: the fewest RULES that hold");
        whyIs("look 12;block 99;", 4095, 1, 1, 1, 1, 1, 1, 1, 1, 1, 1, 1, 1);
        whyIs("look 11;block 99;", 2047, 1, 1, 1, 1, 1, 1, 1, 1, 1, 1, 1, 1);
        whyIs("look 12;block 99;", 4094, -9, 1, 1, 1, 1, 1, 1, 1, 1, 1, 1, 2);
    }

    private void judgedAsKnown() {
        e.of(17, "Of a PAYMENT AS KNOWN 0, 1: 0 SCORE, 1 ACT, 2 the set of RULES that hold, 3 WHY");
        OddPayments x = under("look 3;block 9;rule 3 if count=0;rule 4 if count>0;rule 5 if sum>10;");
        e.row("before", judged(x, 0), 3, 1, 1, 1);
        x.pay(6, 99, 0, 2, 11, 0);
        e.row("one that comes late, ahead", judged(x, 0), 9, 2, 6, 6);
        e.row("as it was known then", judged(x, 1), 3, 1, 1, 1);
        x.pay(8, 100, 0, 2, 11, 0);
        e.row("one behind it", judged(x, 0), 9, 2, 6, 6);
        Due.read(x, "look 3;block 9;rule 2 if far=1;rule 3 if far=9;");
        e.row("none is marked", judged(x, 0), 3, 1, 2, 2);
        x.pay(5, 98, 1, 3, 1, 0);
        x.mark(3, 1);
        e.row("a mark", judged(x, 0), 2, 0, 1, 0);
        e.row("a mark is known in both ways, a late link is not", judged(x, 1), 3, 1, 2, 2);
        x.mark(3, 0);
        e.row("no mark", judged(x, 0), 3, 1, 2, 2);
    }

    private void judgedRefused() {
        e.of(17, "BAD");
        OddPayments x = new OddPayments();
        e.is("there is none", x.judged(0, 0, 0), Due.BAD);
        x.pay(0, 5, 0, 1, 7, 2);
        x.pay(999, 5, 0, 1, 7, 2);
        e.all("known", Due.BAD, x.judged(0, -1, 0), x.judged(0, 2, 0), x.judged(0, Due.LEAST, 3), x.judged(0, Due.MOST, 1));
        e.all("what", Due.BAD, x.judged(0, 0, -1), x.judged(0, 0, 4), x.judged(0, 1, Due.LEAST), x.judged(0, 1, Due.MOST));
        e.all("tag", Due.BAD, x.judged(-1, 0, 0), x.judged(1, 0, 0), x.judged(998, 1, 1), x.judged(1000, 0, 0), x.judged(Due.LEAST, 0, 0), x.judged(Due.MOST, 0, 0));
        e.all("there are", 0, x.judged(0, 0, 0), x.judged(999, 1, 3));
    }

    private void wouldAmounts() {
        e.of(18, "if its amount were another one (1 to 100000) and nothing else");
        OddPayments x = under("look 1;block 2;rule 1 if amount>60;rule 1 if ratio>9999;rule 5 if amount=100000;rule 1 if amount=1;");
        e.row("the least and the greatest", Edges.r(x.would(7, 1), x.would(7, 100000)), 1, 2);
        e.row("its own", Edges.r(x.would(7, 50), x.judged(7, 0, 1)), 0, 0);
        e.row("just above 60, 99", Edges.r(x.would(7, 60), x.would(7, 61), x.would(7, 99), x.would(7, 100), x.would(7, 99999)), 0, 1, 1, 2, 2);
        x.pay(3, 100, 0, 2, 4, 0);
        e.row("its ratio by a profile of 1", Edges.r(x.would(7, 100), x.would(7, 199), x.would(7, 200)), 1, 1, 2);
        x.pay(8, 100, 0, 1, 500, 0);
        e.row("of another", Edges.r(x.would(8, 60), x.would(8, 61)), 0, 1);
        e.of(18, "BAD");
        e.all("amount", Due.BAD, x.would(7, 0), x.would(7, -1), x.would(7, 100001), x.would(7, Due.LEAST), x.would(7, Due.MOST));
    }

    private void wouldNothingElse() {
        e.of(18, "and nothing else");
        OddPayments x = under("look 1;block 2;rule 2 if sum>40 and sum<60;rule 1 if hour=4;");
        x.pay(8, 100, 0, 1, 60, 0);
        e.is("p's amount is not in its own sum", x.would(7, 45), 1);
        e.row("it stays as it is", Edges.r(x.told(7, 4), x.feature(7, 0, 0), x.judged(7, 0, 1)), 50, 50, 1);
        e.row("those behind it, too", Edges.r(x.feature(8, 4, 0), x.judged(8, 0, 1), x.profile(8, 0)), 50, 2, 12);
        e.of(18, "ACT, AS KNOWN 0");
        x.pay(3, 99, 0, 1, 41, 0);
        e.row("one that came late is ahead", Edges.r(x.would(7, 1), x.judged(7, 1, 1)), 2, 1);
    }

    private void wouldRefused() {
        e.of(18, "BAD");
        OddPayments x = new OddPayments();
        e.is("there is none", x.would(0, 1), Due.BAD);
        x.pay(0, 5, 0, 1, 7, 2);
        x.pay(999, 5, 0, 1, 7, 2);
        e.all("tag", Due.BAD, x.would(-1, 1), x.would(1, 1), x.would(998, 1), x.would(1000, 1), x.would(Due.LEAST, 1), x.would(Due.MOST, 1));
        e.all("there are", 0, x.would(0, 1), x.would(999, 1));
    }

    private static long[] acts(OddPayments x) {
        return Edges.r(x.acts(0), x.acts(1), x.acts(2), x.acts(3));
    }

    private void actsOfNone() {
        e.of(19, "How many PAYMENTS: 0 BLOCKED, 1 LOOKED AT, 2 PASSED");
        OddPayments x = new OddPayments();
        e.row("no payments", acts(x), 0, 0, 0, 0);
        x.pay(1, 5, 0, 1, 7, 2);
        e.row("no rules", acts(x), 0, 0, 1, 0);
        Due.read(x, "look 0;");
        e.row("all are looked at", acts(x), 0, 1, 0, 0);
        Due.read(x, "block 0;");
        e.row("all are blocked", acts(x), 1, 0, 0, 0);
    }

    private void actsOfSome() {
        e.of(19, "How many PAYMENTS: 0 BLOCKED, 1 LOOKED AT, 2 PASSED");
        OddPayments x = new OddPayments();
        Due.read(x, "look 1;block 2;rule 1 if sort>0;rule 1 if sort>1;");
        for (int i = 0; i < 120; i++) {
            x.pay(i, i, i % 20, (i + 1) % 20, 1, i < 60 ? 0 : i < 90 ? 1 : 2);
        }
        e.row("of 120", acts(x), 30, 30, 60, 0);
        x.verdict(119, 0);
        e.row("a verdict is no act", acts(x), 30, 30, 60, 0);
    }

    private void actsAsKnown() {
        e.of(19, "3 have another ACT AS KNOWN 1");
        OddPayments x = new OddPayments();
        Due.read(x, "look 1;block 2;rule 1 if count>0;rule 1 if count>1;");
        x.pay(10, 50, 0, 1, 1, 0);
        x.pay(11, 51, 0, 1, 1, 0);
        e.row("in order", acts(x), 0, 1, 1, 0);
        x.pay(9, 49, 0, 1, 1, 0);
        e.row("one that came late: the others have another act", acts(x), 1, 1, 1, 2);
        x.pay(8, 48, 0, 1, 1, 0);
        e.row("two that came late: one more", acts(x), 2, 1, 1, 3);
        x.pay(12, 52, 0, 1, 1, 0);
        e.row("one that came in time", acts(x), 3, 1, 1, 3);
    }

    private void actsRefused() {
        e.of(19, "BAD");
        OddPayments x = new OddPayments();
        e.all("what", Due.BAD, x.acts(-1), x.acts(4), x.acts(Due.LEAST), x.acts(Due.MOST));
    }
}
