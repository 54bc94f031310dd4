/** Promises 20 to 26. */
public final class VerdictsTest {
    private static final Due due = new Due();

    public static void main(String[] args) {
        verdict();
        queue();
        cost();
        setting();
        bestSetting();
        manyScores();
        learnt();
        costs();
        due.end();
    }

    private static void verdict() {
        due.promise(20, "verdict");
        OddPayments x = new OddPayments();
        x.pay(1, 0, 0, 1, 5, 0);
        x.pay(2, 0, 0, 1, 5, 0);
        due.row("verdict", new long[] {x.verdict(1, 0), x.verdict(1, 1), x.verdict(1, 1), x.verdict(2, 0), x.verdict(1, 0)},
                Due.NONE, 0, 1, Due.NONE, 1);
        due.row("counts", new long[] {x.count(3), x.count(4)}, 2, 0);
        x.verdict(2, 1);
        due.row("counts", new long[] {x.count(3), x.count(4)}, 2, 1);
        due.all("bad", Due.BAD, x.verdict(1, -1), x.verdict(1, 2), x.verdict(3, 0), x.verdict(-1, 0), x.verdict(1000, 0));
    }

    private static void queue() {
        due.promise(21, "queue");
        OddPayments x = new OddPayments();
        Due.read(x, "look 2;block 10;rule 2 if amount>9;rule 4 if sort=1;rule 5 if sort=2;rule 10 if sort=3;");
        x.pay(10, 30, 0, 1, 40, 0);
        x.pay(11, 20, 2, 3, 20, 1);
        x.pay(12, 20, 2, 3, 9, 0);
        x.pay(13, 90, 4, 3, 5, 2);
        x.pay(14, 10, 4, 3, 50, 3);
        x.pay(9, 30, 6, 3, 40, 0);
        x.pay(15, 10, 7, 3, 40, 0);
        due.row("by amount times score, then by order",
                new long[] {x.queue(0), x.queue(1), x.queue(2), x.queue(3), x.queue(4), x.queue(5), x.count(6)}, 11, 15, 9, 10, 13, Due.NONE, 5);
        due.all("not so many", Due.NONE, x.queue(-1), x.queue(120), x.queue(Due.MOST), x.queue(Due.LEAST));
        x.verdict(9, 1);
        x.verdict(11, 0);
        due.row("without those that have a verdict", new long[] {x.queue(0), x.queue(1), x.queue(2), x.queue(3), x.count(6)}, 15, 10, 13, Due.NONE, 3);
        x.rules();
        due.is("none is looked at", x.queue(0), Due.NONE);
        Due.read(x, "look 0;block 1;");
        due.row("score 0: by order alone", new long[] {x.queue(0), x.queue(1), x.queue(2), x.queue(3), x.queue(4), x.queue(5)}, 14, 15, 12, 10, 13, Due.NONE);
        Due.read(x, "look 1000;block 20000;rule 1000 if sort<9;rule 1000 if sort<9;rule 1000 if sort<9;rule 1000 if sort<9;rule 1000 if sort<9;rule 1000 if sort<9;"
                + "rule 1000 if sort<9;rule 1000 if sort<9;rule 1000 if sort<9;rule 1000 if sort<9;rule 1000 if sort<9;rule 1000 if sort<9;");
        x.pay(99, 1, 0, 1, 100000, 0);
        due.is("of great worth", x.queue(0), 99);
    }

    private static void cost() {
        due.promise(22, "cost");
        OddPayments x = new OddPayments();
        due.row("cost", new long[] {x.cost(0, 0), x.cost(0, 100000), x.cost(1, 100000), x.cost(1, 0), x.cost(0, 1), x.cost(1, 2)},
                50, 0, 5, 100000, 100000, 0);
        due.all("bad", Due.BAD, x.cost(-1, 0), x.cost(2, 0), x.cost(0, -1), x.cost(0, 100001), x.cost(1, -1), x.cost(1, 100001), x.cost(1, Due.MOST));
        due.row("refused ones change nothing", new long[] {x.cost(0, 0), x.cost(1, 0)}, 1, 2);
    }

    /** Scores 0, 3, 5, 8 by sort, of odd and honest ones; 500s have no verdict. */
    private static OddPayments rated() {
        OddPayments x = new OddPayments();
        Due.read(x, "rule 3 if sort=1;rule 5 if sort=2;rule 8 if sort=3;");
        int[][] pays = {{2, 0, 10, 1}, {4, 1, 70, 0}, {6, 1, 20, 1}, {8, 2, 30, 0}, {10, 3, 200, 1}, {1, 2, 300, 1}, {3, 3, 9, 0}, {5, 0, 8, 0}};
        for (int[] p : pays) {
            x.pay(p[0], 10 * p[0], 0, 1, p[2], p[1]);
            x.verdict(p[0], p[3]);
        }
        x.pay(500, 7, 0, 1, 100000, 3);
        x.pay(501, 7, 0, 1, 100000, 0);
        return x;
    }

    private static void setting() {
        due.promise(23, "setting");
        OddPayments x = new OddPayments();
        due.all("without verdicts", 0, x.setting(0, 0), x.setting(0, 20000), x.setting(20000, 20000));
        x = rated();
        due.is("all are blocked: four honest", x.setting(0, 0), 200);
        due.is("all are looked at: eight", x.setting(0, 20000), 40);
        due.is("all pass: four odd", x.setting(20000, 20000), 530);
        due.is("l = b: none is looked at", x.setting(5, 5), 10 + 20 + 50 + 50);
        due.is("score l is looked at, score b is blocked", x.setting(3, 8), 10 + 5 * 4 + 50);
        due.is("just above", x.setting(4, 9), 10 + 20 + 5 * 4);
        x.cost(0, 1000);
        x.cost(1, 7);
        due.is("by other costs", x.setting(3, 8), 10 + 7 * 4 + 1000);
        due.all("bad", Due.BAD, x.setting(-1, 5), x.setting(0, -1), x.setting(6, 5), x.setting(20001, 20001), x.setting(0, 20001), x.setting(20000, 0),
                x.setting(Due.LEAST, 0), x.setting(0, Due.MOST));
    }

    private static long[] best(OddPayments x) {
        return new long[] {x.bestSetting(0), x.bestSetting(1), x.bestSetting(2)};
    }

    private static void bestSetting() {
        due.promise(24, "bestSetting");
        OddPayments x = new OddPayments();
        due.row("without verdicts", best(x), 0, 0, 0);
        due.all("bad", Due.BAD, x.bestSetting(-1), x.bestSetting(3), x.bestSetting(Due.MOST));
        x = rated();
        due.row("looks are cheap", best(x), 0, 9, 40);
        x.cost(1, 12);
        due.row("looks are dearer", best(x), 4, 9, 30 + 48);
        x.cost(1, 100);
        due.row("looks are dear, blocks cost 50", best(x), 4, 4, 30 + 100);
        x.cost(0, 0);
        due.row("blocks are free", best(x), 0, 0, 0);
        x.cost(0, 100000);
        x.cost(1, 100000);
        due.row("both are dear: all pass", best(x), 9, 9, 530);
        OddPayments y = new OddPayments();
        Due.read(y, "rule 7 if sort=0;");
        y.pay(1, 0, 0, 1, 100, 0);
        y.verdict(1, 0);
        due.row("one honest one passes: l = b = its score and 1", best(y), 8, 8, 0);
        y.verdict(1, 1);
        due.row("one odd one is blocked", best(y), 0, 0, 0);
        y.pay(2, 1, 0, 1, 30, 0);
        y.verdict(2, 0);
        y.cost(0, 40);
        y.cost(1, 20);
        due.row("of several the least l, then the least b", best(y), 0, 0, 40);
        y.cost(0, 41);
        due.row("looked at", best(y), 0, 8, 40);
    }

    /** Sort, amount and hour give 120 payments 120 scores: as many thresholds as there can be, tried one by one by the model. */
    private static void manyScores() {
        due.promise(24, "bestSetting: many scores");
        OddPayments x = new OddPayments();
        Model m = new Model();
        String text = "rule 1 if sort=1;rule 2 if sort=2;rule 3 if sort=3;rule 4 if amount>1;rule 4 if amount>2;rule 4 if amount>3;rule 4 if amount>4;"
                + "rule 20 if hour>0;rule 20 if hour>1;rule 20 if hour>2;rule 20 if hour>3;rule 20 if hour>4;";
        due.is("rules", Due.read(x, text), 12);
        for (char c : text.toCharArray()) {
            m.feed(c, 1);
        }
        m.rules();
        for (int i = 0; i < 120; i++) {
            int tag = i * 7 % 120;
            x.pay(tag, tag / 20, 0, 1, 1 + tag / 4 % 5, tag % 4);
            m.pay(tag, tag / 20, 0, 1, 1 + tag / 4 % 5, tag % 4);
            x.verdict(tag, tag * tag % 7 % 2);
            m.verdict(tag, tag * tag % 7 % 2);
            due.is("score", x.judged(tag, 0, 0), tag);
        }
        for (int[] costs : new int[][] {{50, 5}, {1, 1}, {2, 1}, {3, 2}, {7, 3}, {0, 0}, {0, 9}, {4, 0}}) {
            x.cost(0, costs[0]);
            x.cost(1, costs[1]);
            m.cost(0, costs[0]);
            m.cost(1, costs[1]);
            due.row("costs " + costs[0] + ", " + costs[1], best(x), m.bestSetting(0), m.bestSetting(1), m.bestSetting(2));
            due.row("learnt", new long[] {x.learnt(0), x.learnt(1), x.learnt(2), x.learnt(3)}, m.learnt(0), m.learnt(1), m.learnt(2), m.learnt(3));
        }
    }

    private static void learnt() {
        due.promise(25, "learnt");
        OddPayments x = new OddPayments();
        due.row("no rules", new long[] {x.learnt(0), x.learnt(1), x.learnt(2), x.learnt(3)}, 0, 0, 0, 0);
        due.all("bad", Due.BAD, x.learnt(-1), x.learnt(4), x.learnt(Due.LEAST));
        Due.read(x, "rule 1 if sort=0;rule 1 if sort=1;rule 1 if sort=1;rule 1 if sort<2;");
        x.pay(2, 0, 0, 1, 60, 0);
        x.pay(4, 1, 0, 1, 60, 1);
        x.pay(1, 2, 0, 1, 35, 2);
        x.pay(3, 3, 0, 1, 35, 0);
        x.pay(6, 4, 0, 1, 7, 1);
        x.verdict(2, 1);
        x.verdict(4, 1);
        x.verdict(1, 1);
        x.verdict(3, 0);
        due.row("the fewest that catch both", new long[] {x.learnt(0), x.learnt(1), x.learnt(2), x.learnt(3)}, 8, 0, 85, 85);
        x.verdict(2, 0);
        due.row("of equals the least number", new long[] {x.learnt(0), x.learnt(1), x.learnt(2), x.learnt(3)}, 2, 0, 35, 85);
        x.cost(0, 0);
        due.row("honest ones cost nothing: still the fewest", new long[] {x.learnt(0), x.learnt(1), x.learnt(2), x.learnt(3)}, 2, 0, 35, 35);
        x.verdict(4, 0);
        due.row("none is best, if none is odd", new long[] {x.learnt(0), x.learnt(1), x.learnt(2), x.learnt(3)}, 0, 0, 70 - 35, 35);
        x.cost(0, 10);
        x.verdict(2, 1);
        x.verdict(3, 1);
        due.row("what was held back is not learnt of", new long[] {x.learnt(0), x.learnt(1), x.learnt(2), x.learnt(3)}, 1, 0, 35, 35);
        Due.read(x, "rule 1 if sort<9;");
        x.cost(0, 60);
        due.row("as dear as none: none", new long[] {x.learnt(0), x.learnt(1), x.learnt(2), x.learnt(3)}, 0, 60, 70, 0);
        x.cost(0, 59);
        due.row("less dear", new long[] {x.learnt(0), x.learnt(1), x.learnt(2), x.learnt(3)}, 1, 59, 0, 0);
    }

    private static void costs() {
        due.promise(26, "costs");
        OddPayments x = new OddPayments();
        due.is("no rules: the empty set alone", x.costs(0, 0), 0);
        due.is("no rules", x.costs(1, 0), Due.BAD);
        x = rated();
        due.row("even tags", new long[] {x.costs(0, 0), x.costs(1, 0), x.costs(2, 0), x.costs(4, 0), x.costs(7, 0)}, 230, 260, 280, 30, 110);
        due.row("odd tags", new long[] {x.costs(0, 1), x.costs(1, 1), x.costs(2, 1), x.costs(4, 1), x.costs(7, 1)}, 300, 300, 0, 350, 50);
        due.all("bad", Due.BAD, x.costs(-1, 0), x.costs(8, 0), x.costs(0, -1), x.costs(0, 2), x.costs(Due.MOST, 0), x.costs(Due.LEAST, 1));
    }
}
