/** Edges of the promises 20 to 26. */
final class VerdictEdges {
    private final Edges e;

    VerdictEdges(Edges e) {
        this.e = e;
    }

    void run() {
        verdict();
        verdictRefused();
        queueOfNone();
        queueByWorth();
        queueByOrder();
        queueOfAll();
        queueWithoutVerdicts();
        cost();
        costRefused();
        settingWithoutVerdicts();
        settingBlocks();
        settingLooks();
        settingLetsPass();
        settingOfGreatCosts();
        settingRefused();
        bestWithoutVerdicts();
        bestOfOne();
        bestBounds();
        bestOfSeveral();
        bestOfGreatScores();
        bestOfManyScores();
        bestRefused();
        learntOfNothing();
        learntOfTheLeastCost();
        learntOfTheFewest();
        learntOfEvenTags();
        learntOfTwelve();
        learntRefused();
        costsOfSets();
        costsOfEvenAndOdd();
        costsRefused();
        asAllIsKnown();
    }

    private void verdict() {
        e.of(20, "VERDICT of a PAYMENT: what it was (NONE)");
        OddPayments x = new OddPayments();
        x.pay(0, 5, 0, 1, 7, 2);
        x.pay(999, 5, 0, 1, 7, 2);
        e.row("the first ones", Edges.r(x.verdict(0, 0), x.verdict(999, 1)), Due.NONE, Due.NONE);
        e.row("the same again", Edges.r(x.verdict(0, 0), x.verdict(999, 1)), 0, 1);
        e.of(20, "0 honest, 1 odd (the last one counts)");
        e.row("another", Edges.r(x.verdict(0, 1), x.told(0, 6), x.verdict(0, 0), x.told(0, 6), x.verdict(0, 0)), 0, 1, 1, 0, 0);
        e.row("counts", Edges.r(x.count(3), x.count(4)), 2, 1);
    }

    private void verdictRefused() {
        e.of(20, "BAD");
        OddPayments x = new OddPayments();
        e.is("there is none", x.verdict(0, 0), Due.BAD);
        x.pay(0, 5, 0, 1, 7, 2);
        x.pay(999, 5, 0, 1, 7, 2);
        e.all("v", Due.BAD, x.verdict(0, -1), x.verdict(0, 2), x.verdict(0, Due.NONE), x.verdict(0, Due.LEAST), x.verdict(0, Due.MOST));
        e.all("tag", Due.BAD, x.verdict(-1, 0), x.verdict(1, 0), x.verdict(998, 1), x.verdict(1000, 0), x.verdict(Due.LEAST, 0), x.verdict(Due.MOST, 0));
        e.row("nothing changed", Edges.r(x.count(3), x.told(0, 6), x.told(999, 6)), 0, Due.NONE, Due.NONE);
    }

    private void queueOfNone() {
        e.of(21, "NONE: there are not so many");
        OddPayments x = new OddPayments();
        e.row("no payments", Edges.r(x.queue(0), x.queue(-1), x.queue(Due.LEAST), x.queue(Due.MOST), x.count(6)), Due.NONE, Due.NONE, Due.NONE, Due.NONE, 0);
        x.pay(5, 5, 0, 1, 7, 2);
        e.row("it is passed", Edges.r(x.queue(0), x.count(6)), Due.NONE, 0);
        Due.read(x, "block 0;look 0;");
        e.row("it is blocked", Edges.r(x.queue(0), x.count(6)), Due.NONE, 0);
        Due.read(x, "block 1;look 0;");
        e.row("it is looked at", Edges.r(x.queue(0), x.queue(1), x.queue(-1), x.queue(119), x.queue(120), x.queue(Due.MOST), x.queue(Due.LEAST), x.count(6)),
                5, Due.NONE, Due.NONE, Due.NONE, Due.NONE, Due.NONE, Due.NONE, 1);
    }

    private static long[] queue(OddPayments x) {
        long[] row = new long[x.count(6)];
        for (int i = 0; i < row.length; i++) {
            row[i] = x.queue(i);
        }
        return row;
    }

    private void queueByWorth() {
        e.of(21, "by amount times SCORE, the greatest first");
        OddPayments x = new OddPayments();
        Due.read(x, "look 1;block 12001;rule 2 if sort=1;rule 3 if sort=2;" + "rule 1000 if sort=3;".repeat(10));
        x.pay(1, 1, 0, 1, 30, 1);
        x.pay(2, 2, 2, 1, 21, 2);
        x.pay(3, 3, 3, 1, 19, 2);
        x.pay(4, 4, 4, 1, 29, 1);
        x.pay(5, 5, 5, 1, 1, 3);
        x.pay(6, 6, 6, 1, 99999, 3);
        x.pay(7, 7, 7, 1, 100000, 3);
        x.pay(8, 8, 8, 1, 100000, 2);
        e.row("60, 63, 57, 58, 10000, 999990000, 1000000000, 300000", queue(x), 7, 6, 8, 5, 2, 1, 4, 3);
        e.of(21, "The TAG of the i-th PAYMENT of THE QUEUE");
        e.row("first and last", Edges.r(x.queue(0), x.queue(7), x.queue(8)), 7, 3, Due.NONE);
    }

    private void queueByOrder() {
        e.of(21, "of several by ORDER");
        OddPayments x = new OddPayments();
        Due.read(x, "look 1;block 9;rule 2 if sort=1;rule 3 if sort=2;");
        x.pay(9, 50, 0, 1, 30, 1);
        x.pay(7, 50, 0, 1, 30, 1);
        x.pay(8, 50, 0, 1, 20, 2);
        x.pay(900, 49, 0, 1, 20, 2);
        x.pay(0, 51, 0, 1, 30, 1);
        x.pay(3, 99, 0, 1, 31, 1);
        e.row("five of 60, one of 62", queue(x), 3, 900, 7, 8, 9, 0);
        Due.read(x, "look 0;");
        e.row("all of 0", queue(x), 900, 7, 8, 9, 0, 3);
    }

    private void queueOfAll() {
        e.of(21, "THE QUEUE: PAYMENTS without a VERDICT that are LOOKED AT");
        OddPayments x = new OddPayments();
        Due.read(x, "look 1;block 2;rule 1 if sort<4;");
        for (int i = 0; i < 120; i++) {
            x.pay(i, 1000 - i, i % 20, (i + 1) % 20, 1 + i * 7 % 120, 0);
        }
        e.row("all 120", Edges.r(x.count(6), x.queue(120)), 120, Due.NONE);
        for (int i = 0; i < 120; i++) {
            int tag = x.queue(i);
            e.is("number " + i, x.told(tag, 4), 120 - i);
        }
    }

    private void queueWithoutVerdicts() {
        e.of(21, "THE QUEUE: PAYMENTS without a VERDICT that are LOOKED AT");
        OddPayments x = new OddPayments();
        Due.read(x, "look 1;block 2;rule 1 if sort=1;rule 2 if sort=2;rule 1 if count>0;");
        x.pay(1, 10, 0, 1, 5, 1);
        x.pay(2, 11, 1, 2, 6, 1);
        x.pay(3, 12, 2, 3, 7, 1);
        x.pay(4, 13, 3, 4, 8, 0);
        x.pay(5, 14, 4, 5, 9, 2);
        e.row("neither passed nor blocked ones", queue(x), 3, 2, 1);
        x.verdict(3, 0);
        x.verdict(1, 1);
        x.verdict(4, 1);
        e.row("neither honest nor odd ones", queue(x), 2);
        x.pay(6, 9, 1, 3, 5, 0);
        e.row("as known 0: one that came late makes it blocked", queue(x), new long[0]);
        x.pay(7, 8, 6, 3, 50, 0);
        x.pay(8, 7, 6, 3, 50, 0);
        e.row("as known 0: one that came late makes it looked at", queue(x), 7);
    }

    private void cost() {
        e.of(22, "COST of a BLOCKED honest one (what = 0), of a LOOK (1): what it was");
        OddPayments x = new OddPayments();
        e.row("at first", Edges.r(x.cost(0, 0), x.cost(1, 0)), 50, 5);
        e.of(22, "COSTS: of a BLOCKED honest one (0 to 100000");
        e.row("the least, the greatest", Edges.r(x.cost(0, 100000), x.cost(1, 100000), x.cost(0, 7), x.cost(1, 8), x.cost(0, 7), x.cost(1, 8)), 0, 0, 100000, 100000, 7, 8);
    }

    private void costRefused() {
        e.of(22, "BAD");
        OddPayments x = new OddPayments();
        e.all("what", Due.BAD, x.cost(-1, 1), x.cost(2, 1), x.cost(Due.LEAST, 1), x.cost(Due.MOST, 1));
        e.all("v", Due.BAD, x.cost(0, -1), x.cost(0, 100001), x.cost(1, -1), x.cost(1, 100001), x.cost(0, Due.LEAST), x.cost(1, Due.MOST), x.cost(0, Due.MOST), x.cost(1, Due.LEAST));
        e.row("nothing changed", Edges.r(x.cost(0, 1), x.cost(1, 1)), 50, 5);
    }

    /** Payments with scores 0, 3, 5 and 8 by sort: {tag, sort, amount, verdict}; costs of 1000 and 7. */
    private static OddPayments rated(int[]... pays) {
        OddPayments x = new OddPayments();
        Due.read(x, "rule 3 if sort=1;rule 5 if sort=2;rule 8 if sort=3;");
        for (int[] p : pays) {
            x.pay(p[0], p[0], 0, 1, p[2], p[1]);
            if (p[3] >= 0) {
                x.verdict(p[0], p[3]);
            }
        }
        x.cost(0, 1000);
        x.cost(1, 7);
        return x;
    }

    private void settingWithoutVerdicts() {
        e.of(23, "COST of a SETTING (0 to 20000 each)");
        OddPayments x = new OddPayments();
        e.all("no payments", 0, x.setting(0, 0), x.setting(0, 20000), x.setting(20000, 20000));
        x = rated(new int[] {1, 3, 100, -1}, new int[] {2, 0, 100, -1});
        e.all("no verdicts", 0, x.setting(0, 0), x.setting(0, 20000), x.setting(20000, 20000), x.setting(3, 8));
    }

    private void settingBlocks() {
        e.of(23, "BLOCKED by b (SCORE b or more): that cost, if it is honest");
        OddPayments honest = rated(new int[] {1, 2, 100, 0});
        e.row("an honest one of 5", Edges.r(honest.setting(4, 4), honest.setting(5, 5), honest.setting(0, 5), honest.setting(6, 6)), 1000, 1000, 1000, 0);
        OddPayments odd = rated(new int[] {1, 2, 100, 1});
        e.row("an odd one of 5", Edges.r(odd.setting(4, 4), odd.setting(5, 5), odd.setting(0, 5), odd.setting(6, 6)), 0, 0, 0, 100);
        OddPayments none = rated(new int[] {1, 0, 100, 0}, new int[] {2, 0, 50, 1});
        e.row("of score 0", Edges.r(none.setting(0, 0), none.setting(0, 1), none.setting(1, 1)), 1000, 14, 50);
    }

    private void settingLooks() {
        e.of(23, "else LOOKED AT by l: the cost of a LOOK");
        for (int verdict = 0; verdict < 2; verdict++) {
            OddPayments x = rated(new int[] {1, 2, 100, verdict});
            e.row("one of 5", Edges.r(x.setting(5, 6), x.setting(4, 6), x.setting(0, 6), x.setting(0, 20000), x.setting(5, 20000)), 7, 7, 7, 7, 7);
            e.is("just below l", x.setting(6, 7), verdict == 0 ? 0 : 100);
            x.cost(1, 0);
            e.is("a look costs nothing", x.setting(5, 6), 0);
        }
    }

    private void settingLetsPass() {
        e.of(23, "else its amount, if it is odd");
        OddPayments x = rated(new int[] {1, 0, 100, 1}, new int[] {2, 1, 20, 1}, new int[] {3, 2, 3, 0}, new int[] {4, 3, 50000, 1}, new int[] {5, 3, 9, -1});
        e.row("all pass", Edges.r(x.setting(9, 9), x.setting(20000, 20000)), 50120, 50120);
        e.row("some", Edges.r(x.setting(1, 20000), x.setting(4, 8), x.setting(4, 6), x.setting(3, 5), x.setting(3, 3)), 121, 127, 127, 1107, 1100);
        e.of(23, "over all PAYMENTS with a VERDICT");
        x.verdict(5, 1);
        e.row("one more", Edges.r(x.setting(9, 9), x.setting(0, 9)), 50129, 35);
        x.verdict(1, 0);
        e.row("another verdict", Edges.r(x.setting(9, 9), x.setting(0, 0)), 50029, 2000);
    }

    private void settingOfGreatCosts() {
        e.of(23, "COST of a SETTING (0 to 20000 each)");
        OddPayments x = new OddPayments();
        for (int i = 0; i < 120; i++) {
            x.pay(i, i, 0, 1, 100000, 0);
            x.verdict(i, 1);
        }
        e.is("120 odd ones of 100000", x.setting(1, 1), 12000000);
        e.is("a cost in the best setting", x.bestSetting(2), 0);
        e.is("and in a set", x.costs(0, 0) + x.costs(0, 1), 12000000);
        x.cost(1, 100000);
        e.is("120 looks of 100000", x.setting(0, 1), 12000000);
        x.cost(0, 100000);
        for (int i = 0; i < 120; i++) {
            x.verdict(i, 0);
        }
        e.is("120 honest ones of 100000", x.setting(0, 0), 12000000);
    }

    private void settingRefused() {
        e.of(23, "BAD as a long: l, b (l above b, too)");
        OddPayments x = rated(new int[] {1, 2, 100, 1});
        e.all("l", -1000001L, x.setting(-1, 5), x.setting(20001, 20001), x.setting(Due.LEAST, 0), x.setting(Due.MOST, Due.MOST), x.setting(-1, -1));
        e.all("b", -1000001L, x.setting(0, -1), x.setting(0, 20001), x.setting(0, Due.LEAST), x.setting(0, Due.MOST));
        e.all("l above b", -1000001L, x.setting(1, 0), x.setting(20000, 19999), x.setting(6, 5), x.setting(20000, 0));
        e.row("l is b", Edges.r(x.setting(0, 0), x.setting(5, 5), x.setting(20000, 20000)), 0, 0, 100);
    }

    private static long[] best(OddPayments x) {
        return Edges.r(x.bestSetting(0), x.bestSetting(1), x.bestSetting(2));
    }

    private void bestWithoutVerdicts() {
        e.of(24, "(Without VERDICTS: 0, 0, 0.)");
        e.row("no payments", best(new OddPayments()), 0, 0, 0);
        e.row("no verdicts", best(rated(new int[] {1, 3, 100, -1}, new int[] {2, 0, 100, -1})), 0, 0, 0);
    }

    private void bestOfOne() {
        e.of(24, "l, b each 0 or 1 more than the SCORE of such a PAYMENT");
        e.row("an honest one of 5 passes", best(rated(new int[] {1, 2, 100, 0})), 6, 6, 0);
        e.row("an honest one of 0 passes", best(rated(new int[] {1, 0, 100, 0})), 1, 1, 0);
        e.row("an odd one of 5 is blocked", best(rated(new int[] {1, 2, 100, 1})), 0, 0, 0);
        OddPayments x = rated(new int[] {1, 2, 100, 0});
        x.cost(1, 0);
        e.row("a look that costs nothing: the least l, and b above it", best(x), 0, 6, 0);
        x.cost(0, 0);
        e.row("nor does a block", best(x), 0, 0, 0);
    }

    private void bestBounds() {
        e.of(24, "BEST SETTING: l, b each 0 or 1 more than the SCORE of such a PAYMENT, l not above b: of least COST");
        OddPayments x = rated(new int[] {1, 0, 100, 0}, new int[] {2, 1, 20, 0}, new int[] {3, 2, 30, 1}, new int[] {4, 3, 40, 1});
        e.row("honest of 0, 3, odd of 5, 8", best(x), 4, 4, 0);
        x.verdict(2, 1);
        x.verdict(3, 0);
        e.row("honest of 0, 5, odd of 3, 8: looks at 3 and 5", best(x), 1, 6, 14);
        x.cost(1, 10);
        e.row("two looks as dear as the odd one of 20: the least l", best(x), 1, 6, 20);
        x.cost(1, 11);
        e.row("two looks are dearer", best(x), 6, 6, 20);
        x.pay(5, 99, 0, 1, 100000, 3);
        e.row("one without a verdict", best(x), 6, 6, 20);
    }

    private void bestOfSeveral() {
        e.of(24, "of several the least l, then the least b");
        OddPayments x = rated(new int[] {1, 2, 14, 1}, new int[] {2, 2, 1, 0});
        x.cost(0, 14);
        e.row("blocked, both looked at, or passed: 14 each", best(x), 0, 0, 14);
        x.cost(0, 15);
        e.row("both looked at, or passed", best(x), 0, 6, 14);
        x.cost(1, 8);
        e.row("passed", best(x), 6, 6, 14);
        x = rated(new int[] {1, 1, 14, 1}, new int[] {2, 2, 1, 1}, new int[] {3, 3, 1, 1});
        e.row("all odd", best(x), 0, 0, 0);
        x.pay(4, 4, 0, 1, 1, 0);
        x.verdict(4, 0);
        x.cost(1, 0);
        e.row("the one of 0 is looked at, the least b above it", best(x), 0, 1, 0);
    }

    private void bestOfGreatScores() {
        e.of(24, "1 more than the SCORE of such a PAYMENT");
        OddPayments x = new OddPayments();
        Due.read(x, "rule 1000 if sort<4;".repeat(12));
        x.pay(1, 1, 0, 1, 5, 0);
        x.verdict(1, 0);
        e.row("12001", best(x), 12001, 12001, 0);
    }

    /** 120 payments with the scores 0 to 119, all honest; they come from the lowest on, from the highest, or mixed. */
    private static OddPayments ofAllScores(int first, int step) {
        OddPayments x = new OddPayments();
        Due.read(x, "rule 1 if sort=1;rule 2 if sort=2;rule 3 if sort=3;rule 4 if amount>1;rule 4 if amount>2;rule 4 if amount>3;rule 4 if amount>4;"
                + "rule 20 if hour>0;rule 20 if hour>1;rule 20 if hour>2;rule 20 if hour>3;rule 20 if hour>4;");
        for (int i = 0; i < 120; i++) {
            int score = (first + i * step) % 120;
            int day = 24 * (i * step % 7);
            x.pay(score, day + score / 20, 0, 1, 1 + score / 4 % 5, score % 4);
            x.verdict(score, 0);
        }
        return x;
    }

    private void bestOfManyScores() {
        e.of(24, "l, b each 0 or 1 more than the SCORE of such a PAYMENT");
        for (int[] way : new int[][] {{0, 1}, {119, 119}, {0, 7}, {50, 77}}) {
            OddPayments x = ofAllScores(way[0], way[1]);
            e.row("all are honest", best(x), 120, 120, 0);
            int odd = 120;
            for (int k : new int[] {119, 118, 100, 61, 60, 59, 20, 2, 1, 0}) {
                while (odd > k) {
                    odd--;
                    x.verdict(odd, 1);
                }
                e.row("odd from " + k + " on", best(x), k, k, 0);
            }
        }
        e.of(24, "BEST SETTING: l, b each 0 or 1 more than the SCORE of such a PAYMENT, l not above b: of least COST");
        for (int[] way : new int[][] {{0, 1}, {119, 119}, {0, 7}, {50, 77}}) {
            OddPayments x = ofAllScores(way[0], way[1]);
            x.cost(1, 0);
            for (int k : new int[] {119, 90, 89, 61, 60}) {
                x.verdict(k, 1);
            }
            e.row("looks for nothing, honest ones up to 118", best(x), 0, 119, 0);
            x.cost(1, 1);
            e.row("looks at so many are dearer than what passes; 119 is blocked", best(x), 119, 119, 1 + 3 + 3 + 1);
        }
    }

    private void bestRefused() {
        e.of(24, "BAD as a long");
        OddPayments x = rated(new int[] {1, 2, 100, 1});
        e.all("what", -1000001L, x.bestSetting(-1), x.bestSetting(3), x.bestSetting(Due.LEAST), x.bestSetting(Due.MOST));
        e.of(24, "BEST SETTING: 0 l, 1 b, 2 COST");
        x.verdict(1, 0);
        x.cost(1, 0);
        e.row("in whatever order", Edges.r(x.bestSetting(2), x.bestSetting(1), x.bestSetting(0)), 0, 6, 0);
    }

    private static long[] learnt(OddPayments x) {
        return Edges.r(x.learnt(0), x.learnt(1), x.learnt(2), x.learnt(3));
    }

    private void learntOfNothing() {
        e.of(25, "LEARNT: 0 the SET, 1 its COST on what it was learnt of, 2 its COST on what was HELD BACK, 3 the COST of all RULES there");
        OddPayments x = new OddPayments();
        e.row("no payments, no rules", learnt(x), 0, 0, 0, 0);
        x.pay(2, 1, 0, 1, 60, 0);
        x.pay(3, 1, 0, 1, 70, 0);
        x.verdict(2, 1);
        x.verdict(3, 1);
        e.row("no rules", learnt(x), 0, 60, 70, 70);
        x = rated(new int[] {2, 3, 100, -1}, new int[] {3, 0, 100, -1});
        e.row("no verdicts", learnt(x), 0, 0, 0, 0);
    }

    private void learntOfTheLeastCost() {
        e.of(25, "LEARNT: of all SETS that of least COST");
        OddPayments x = rated(new int[] {2, 1, 999, 1}, new int[] {4, 1, 50, 0}, new int[] {6, 3, 10, 1});
        e.row("an honest one is dearer", learnt(x), 4, 999, 0, 0);
        x.cost(0, 999);
        e.row("just as dear: the fewest", learnt(x), 4, 999, 0, 0);
        x.cost(0, 998);
        e.row("less dear", learnt(x), 5, 998, 0, 0);
        x.cost(0, 0);
        e.row("for nothing", learnt(x), 5, 0, 0, 0);
        x.verdict(6, 0);
        e.row("an honest one that costs nothing need not be caught", learnt(x), 1, 0, 0, 0);
    }

    private void learntOfTheFewest() {
        e.of(25, "of several that of the fewest RULES, then the least number");
        OddPayments x = new OddPayments();
        Due.read(x, "rule 1 if sort=0;rule 1 if sort=1;rule 1 if sort<2;rule 1 if hour<3;");
        x.pay(2, 24, 0, 1, 60, 0);
        x.pay(4, 25, 0, 1, 70, 1);
        x.verdict(2, 1);
        x.verdict(4, 1);
        e.row("one rule for both, the least", learnt(x), 4, 0, 0, 0);
        Due.read(x, "rule 1 if sort=0;rule 1 if sort=1;rule 1 if sort=0;rule 1 if sort=1;");
        e.row("two rules, the least", learnt(x), 3, 0, 0, 0);
        Due.read(x, "rule 1 if sort=3;rule 1 if sort=0;rule 1 if sort=0;rule 1 if sort=1;");
        e.row("none that catches nothing", learnt(x), 10, 0, 0, 0);
        Due.read(x, "rule 1 if sort=0 and hour=9;rule 1 if sort=3;");
        e.row("none that catches anything: none", learnt(x), 0, 130, 0, 0);
    }

    private void learntOfEvenTags() {
        e.of(25, "on PAYMENTS with a VERDICT and an even TAG");
        OddPayments x = rated(new int[] {0, 1, 100, 1}, new int[] {999, 2, 200, 1}, new int[] {1, 3, 300, 1}, new int[] {998, 2, 400, -1}, new int[] {3, 1, 5, 0});
        e.row("tag 0 is even", learnt(x), 1, 0, 200 + 300 + 1000, 1000);
        x.verdict(998, 1);
        e.row("tag 998 is even", learnt(x), 3, 0, 300 + 1000, 1000);
        e.of(25, "HELD BACK are those with an odd TAG");
        x.verdict(3, 1);
        e.row("odd ones held back are not learnt of", learnt(x), 3, 0, 300, 0);
        x.verdict(999, 0);
        e.row("nor are honest ones", learnt(x), 3, 0, 300 + 1000, 1000);
    }

    private void learntOfTwelve() {
        e.of(25, "LEARNT: of all SETS that of least COST");
        OddPayments x = new OddPayments();
        StringBuilder b = new StringBuilder();
        for (int k = 0; k < 12; k++) {
            b.append("rule 1 if hour=").append(k).append(';');
            x.pay(2 * k, k, 0, 1, 60, 0);
            x.verdict(2 * k, 1);
        }
        e.is("twelve rules", Due.read(x, b.toString()), 12);
        e.row("all of them", learnt(x), 4095, 0, 0, 0);
        x.verdict(0, 0);
        e.row("all but the first", learnt(x), 4094, 0, 0, 0);
        x.verdict(0, 1);
        x.verdict(22, 0);
        e.row("all but the last", learnt(x), 2047, 0, 0, 0);
    }

    private void learntRefused() {
        e.of(25, "BAD as a long");
        OddPayments x = rated(new int[] {2, 2, 100, 1});
        e.all("what", -1000001L, x.learnt(-1), x.learnt(4), x.learnt(Due.LEAST), x.learnt(Due.MOST));
    }

    private void costsOfSets() {
        e.of(26, "A SET of RULES CATCHES a PAYMENT, if some RULE of it holds");
        OddPayments x = new OddPayments();
        Due.read(x, "rule 1 if sort=1;rule 1 if sort>0;");
        x.pay(2, 1, 0, 1, 60, 1);
        x.pay(4, 1, 0, 1, 70, 2);
        x.pay(6, 1, 0, 1, 80, 0);
        x.verdict(2, 1);
        x.verdict(4, 1);
        x.verdict(6, 1);
        e.row("sets", Edges.r(x.costs(0, 0), x.costs(1, 0), x.costs(2, 0), x.costs(3, 0)), 210, 150, 80, 80);
        e.of(26, "its COST: amounts of odd ones it does not catch, and the cost of a BLOCKED honest one for each honest one that it does");
        x.verdict(4, 0);
        e.row("one is honest", Edges.r(x.costs(0, 0), x.costs(1, 0), x.costs(2, 0), x.costs(3, 0)), 140, 80, 130, 130);
        x.verdict(2, 0);
        e.row("two are honest: once for each", Edges.r(x.costs(0, 0), x.costs(1, 0), x.costs(2, 0), x.costs(3, 0)), 80, 130, 180, 180);
        x.cost(0, 0);
        e.row("for nothing", Edges.r(x.costs(0, 0), x.costs(3, 0)), 80, 80);
    }

    private void costsOfEvenAndOdd() {
        e.of(26, "COST of a SET of RULES on PAYMENTS with a VERDICT and an even TAG (odd = 0), an odd one (1)");
        OddPayments x = rated(new int[] {0, 1, 1, 1}, new int[] {1, 1, 2, 1}, new int[] {998, 2, 4, 1}, new int[] {999, 2, 8, 1}, new int[] {2, 1, 16, -1}, new int[] {3, 1, 32, -1});
        e.row("even", Edges.r(x.costs(0, 0), x.costs(1, 0), x.costs(2, 0), x.costs(3, 0), x.costs(4, 0), x.costs(7, 0)), 5, 4, 1, 0, 5, 0);
        e.row("odd", Edges.r(x.costs(0, 1), x.costs(1, 1), x.costs(2, 1), x.costs(3, 1), x.costs(4, 1), x.costs(7, 1)), 10, 8, 2, 0, 10, 0);
    }

    private void costsRefused() {
        e.of(26, "BAD as a long: the SET, odd");
        OddPayments x = new OddPayments();
        e.row("no rules", Edges.r(x.costs(0, 0), x.costs(0, 1), x.costs(1, 0), x.costs(-1, 0)), 0, 0, -1000001L, -1000001L);
        Due.read(x, "rule 1 if sort=0;");
        e.row("one rule", Edges.r(x.costs(0, 0), x.costs(1, 0), x.costs(2, 0), x.costs(-1, 0)), 0, 0, -1000001L, -1000001L);
        Due.read(x, "rule 1 if sort=0;".repeat(12));
        e.row("twelve rules", Edges.r(x.costs(4095, 0), x.costs(4095, 1), x.costs(4096, 0), x.costs(4096, 1)), 0, 0, -1000001L, -1000001L);
        e.all("set", -1000001L, x.costs(Due.LEAST, 0), x.costs(Due.MOST, 0));
        e.all("odd", -1000001L, x.costs(0, -1), x.costs(0, 2), x.costs(0, Due.LEAST), x.costs(0, Due.MOST));
    }

    /** Tag 10 has rule 1 alone (score 5) since tag 4 came late; as it was known then it had rule 0 (score 1). */
    private static OddPayments overtaken() {
        OddPayments x = new OddPayments();
        Due.read(x, "look 1;block 100;rule 1 if count=0;rule 5 if count>0;");
        x.pay(10, 50, 0, 1, 10, 0);
        x.pay(20, 50, 2, 1, 20, 0);
        x.pay(4, 49, 0, 1, 1, 0);
        return x;
    }

    private void asAllIsKnown() {
        e.of(21, "THE QUEUE: PAYMENTS without a VERDICT that are LOOKED AT, by amount times SCORE");
        OddPayments x = overtaken();
        e.row("50, 20, 1", queue(x), 10, 20, 4);
        e.row("scores", Edges.r(x.judged(10, 0, 0), x.judged(10, 1, 0)), 5, 1);
        e.of(23, "BLOCKED by b (SCORE b or more)");
        x.verdict(10, 0);
        e.row("5 by 2, 5 and 6", Edges.r(x.setting(1, 2), x.setting(1, 5), x.setting(1, 6), x.setting(6, 6)), 50, 50, 5, 0);
        e.of(24, "1 more than the SCORE of such a PAYMENT");
        e.row("above 5", best(x), 6, 6, 0);
        e.of(26, "A SET of RULES CATCHES a PAYMENT, if some RULE of it holds");
        e.row("rule 1 holds", Edges.r(x.costs(1, 0), x.costs(2, 0)), 0, 50);
        e.of(25, "LEARNT: of all SETS that of least COST");
        x.verdict(10, 1);
        e.row("rule 1 catches it", learnt(x), 2, 0, 0, 0);
    }
}
