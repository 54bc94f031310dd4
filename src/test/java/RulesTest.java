/** Promises 13 to 19. */
public final class RulesTest {
    private static final Due due = new Due();

    public static void main(String[] args) {
        feed();
        rules();
        faults();
        fault();
        rule();
        judged();
        why();
        would();
        acts();
        due.end();
    }

    private static void feed() {
        due.promise(13, "feed");
        OddPayments x = new OddPayments();
        due.all("bad", Due.BAD, x.feed(1, 0), x.feed(1, 9), x.feed(1, -1), x.feed(1, Due.MOST), x.feed(1, Due.LEAST));
        due.is("none came", x.count(7), 0);
        due.is("the lowest bytes, the highest of them first", x.feed(0x77_6c_6f_6f_6b_20_31_3bL, 7), 7);
        due.is("look 1;", x.rules(), 0);
        due.is("rule(2)", x.rule(2), 1);
        for (int i = 1; i <= 74; i++) {
            due.is("feed", x.feed(-1L, 8), 8 * i);
        }
        due.is("count(7)", x.count(7), 592);
        due.is("feed", x.feed(0, 5), 597);
        due.is("too many: none comes", x.feed(0, 4), Due.FULL);
        due.is("count(7)", x.count(7), 597);
        due.is("BAD ahead of FULL", x.feed(0, 9), Due.BAD);
        due.is("to the end", x.feed(0, 3), 600);
        due.is("full", x.feed(0, 1), Due.FULL);
        due.is("a byte of 255 is no token", x.rules(), -1000100);
        due.is("the tape is empty then", x.count(7), 0);
    }

    private static void rules() {
        due.promise(14, "rules");
        OddPayments x = new OddPayments();
        due.is("no text", x.rules(), 0);
        due.is("gaps alone", Due.read(x, " \n  \n"), 0);
        due.is("all of it", Due.read(x, "\nwindow 7 ; decay\n9;look 3;block 4;rule 5 if amount>3 and sum<2;rule 1 if far=9;"), 2);
        due.row("limits", new long[] {x.rule(0), x.rule(1), x.rule(2), x.rule(3), x.count(2)}, 7, 9, 3, 4, 2);
        due.is("a fault: all stays", Due.read(x, "window 8;rule 5 if sort=1;rule"), -1000100 - 30);
        due.row("limits", new long[] {x.rule(0), x.rule(1), x.rule(2), x.rule(3), x.count(2), x.count(7)}, 7, 9, 3, 4, 2, 0);
        due.is("the last one told", Due.read(x, "window 8;window 000012;look 1;look 2;"), 0);
        due.row("limits, those not told as at first", new long[] {x.rule(0), x.rule(1), x.rule(2), x.rule(3), x.count(2)}, 12, 50, 2, 20, 0);
        due.is("no gaps are needed", Due.read(x, "rule1if sort=1and hour<2;"), 1);
        due.is("bounds", Due.read(x, "window 1;decay 100000;look 0;block 20000;rule 1000 if ratio>999999;rule 1 if ratio<0;"), 2);
        due.is("bounds", Due.read(x, "window 100000;decay 1;look 20000;block 0;"), 0);
        StringBuilder b = new StringBuilder();
        for (int i = 0; i < 12; i++) {
            b.append("rule 1 if sort=0 and hour=1;");
        }
        due.is("twelve", Due.read(x, b.toString()), 12);
        due.is("count(2)", x.count(2), 12);
        for (String f : new String[] {"amount", "sort", "hour", "count", "sum", "payees", "seen", "ratio", "far", "into"}) {
            due.is(f, Due.read(x, "rule 1 if " + f + "=1;"), 1);
        }
        due.is("four tests", Due.read(x, "rule 1 if sort=1 and far>2 and into<3 and sum=0;"), 1);
    }

    private static void fails(String text, int place, int number) {
        OddPayments x = new OddPayments();
        due.is("'" + text + "'", Due.read(x, text), -1000100 - place);
        due.is("fault of '" + text + "'", x.fault(), number);
    }

    private static void faults() {
        due.promise(14, "faults");
        fails("windows 5;", 0, 1);
        fails("windo 5;", 0, 1);
        fails("Window 5;", 0, 1);
        fails("5;", 0, 1);
        fails(";", 0, 1);
        fails("if", 0, 1);
        fails("amount>3;", 0, 1);
        fails("look", 4, 1);
        fails("look \n ", 7, 1);
        fails("look 5", 6, 1);
        fails("look 5 5;", 7, 1);
        fails("look 5=", 6, 1);
        fails("look 5 59;", 7, 1);
        fails("book 1;", 0, 1);
        fails("lookz 1;", 0, 1);
        fails("alook 1;", 0, 1);
        fails("nule 1 if sort=1;", 0, 1);
        fails("rule 1 is sort=1;", 7, 1);
        fails("rule 1 if gum=1;", 10, 1);
        fails("rule 1 if sort=;", 15, 1);
        fails("rule 1 if sort= and hour=1;", 16, 1);
        fails("rule 1 if sort=1 and hour=1<", 27, 1);
        fails("look ; 5;", 5, 1);
        fails("look 1234567;", 5, 1);
        fails("look 0000001;", 5, 1);
        fails("look 20001;", 5, 2);
        fails("block  20001;", 7, 2);
        fails("window 0;", 7, 2);
        fails("window 100001;", 7, 2);
        fails("decay 0;", 6, 2);
        fails("decay 100001;", 6, 2);
        fails("look -1;", 5, 1);
        fails("look\t1;", 4, 1);
        fails("look 1;#", 7, 1);
        fails("look 1;\u00e9", 7, 1);
        fails("rule", 4, 1);
        fails("rule 0 if sort=1;", 5, 2);
        fails("rule 1001 if sort=1;", 5, 2);
        fails("rule 1 and sort=1;", 7, 1);
        fails("rule 1 if ;", 10, 1);
        fails("rule 1 if rule=1;", 10, 1);
        fails("rule 1 if amounts=1;", 10, 1);
        fails("rule 1 if payeesx=1;", 10, 1);
        fails("rule 1 if sort;", 14, 1);
        fails("rule 1 if sort==1;", 15, 1);
        fails("rule 1 if sort=hour;", 15, 1);
        fails("rule 1 if sort=1 if hour=2;", 17, 1);
        fails("rule 1 if sort=1 and;", 20, 1);
        fails("rule 1 if sort=1 and ", 21, 1);
        fails("rule 1 if sort=1", 16, 1);
        fails("rule 1 if sort=1 and hour>1000000;", 26, 1);
        fails("rule 1 if sort=1 hour=1;", 17, 1);
        fails("rule 1 if sort=1 and sort=1 and sort=1 and sort=1 and", 50, 3);
        fails("rule 1 if sort=1 and sort=1 and sort=1 and sort=1 an;", 50, 1);
        StringBuilder b = new StringBuilder();
        for (int i = 0; i < 12; i++) {
            b.append("rule 1 if sort=0;");
        }
        fails(b + "rule 0 if", 204, 3);
        fails(b + "rules", 204, 1);
        fails(b + "look 1;rule", 211, 3);
        fails(b + "look 20001;rule", 209, 2);
        fails("look 20001;rule 0 if", 5, 2);
        fails("look 1;" + " ".repeat(587) + "look 2", 600, 1);
        fails("look 1;" + " ".repeat(589) + "look", 600, 1);
        fails(" ".repeat(599) + "x", 599, 1);
        fails(";".repeat(600), 0, 1);
        fails("z".repeat(600), 0, 1);
        fails("9".repeat(600), 0, 1);
        OddPayments x = new OddPayments();
        due.is("600 bytes", Due.read(x, "look 1;" + "\n".repeat(586) + "look 2;"), 0);
        due.is("rule(2)", x.rule(2), 2);
    }

    private static void fault() {
        due.promise(15, "fault");
        OddPayments x = new OddPayments();
        due.is("before one", x.fault(), 0);
        Due.read(x, "look 20001;");
        due.is("fault()", x.fault(), 2);
        Due.read(x, "look 2;");
        due.is("a good text leaves it", x.fault(), 2);
        Due.read(x, "look");
        due.is("the latest", x.fault(), 1);
    }

    private static void rule() {
        due.promise(16, "rule");
        OddPayments x = new OddPayments();
        Due.read(x, "block 1;look 2;decay 3;window 4;");
        due.row("limits", new long[] {x.rule(0), x.rule(1), x.rule(2), x.rule(3)}, 4, 3, 2, 1);
        due.all("bad", Due.BAD, x.rule(-1), x.rule(4), x.rule(Due.LEAST), x.rule(Due.MOST));
    }

    private static long[] all(OddPayments x, int tag, int known) {
        return new long[] {x.judged(tag, known, 0), x.judged(tag, known, 1), x.judged(tag, known, 2), x.judged(tag, known, 3)};
    }

    private static void judged() {
        due.promise(17, "judged");
        OddPayments x = new OddPayments();
        x.pay(1, 30, 0, 1, 50, 2);
        due.row("without rules", all(x, 1, 0), 0, 0, 0, 0);
        Due.read(x, "look 5;block 9;rule 5 if amount>49 and sort=2;rule 4 if amount<50;rule 3 if amount=50;rule 1 if hour=6 and amount>50;rule 7 if count>0;");
        due.row("some hold", all(x, 1, 0), 8, 1, 5, 1);
        x.pay(2, 20, 0, 1, 10, 0);
        due.row("a late one ahead", all(x, 1, 0), 15, 2, 21, 17);
        due.row("as it was known then", all(x, 1, 1), 8, 1, 5, 1);
        due.row("the late one", all(x, 2, 0), 4, 0, 2, 0);
        Due.read(x, "look 16;block 15;rule 15 if sum=10;");
        due.row("another text", all(x, 1, 0), 15, 2, 1, 1);
        Due.read(x, "rule 999 if far=1;");
        due.row("far", all(x, 1, 0), 0, 0, 0, 0);
        x.mark(0, 1);
        due.row("a mark is known in both ways", all(x, 1, 0), 999, 2, 1, 1);
        due.row("a mark is known in both ways, but no link was", all(x, 1, 1), 0, 0, 0, 0);
        due.all("bad", Due.BAD, x.judged(3, 0, 0), x.judged(-1, 0, 0), x.judged(1, -1, 0), x.judged(1, 2, 0), x.judged(1, 0, -1), x.judged(1, 0, 4), x.judged(1000, 0, 0));
    }

    private static void whyIs(String text, int want) {
        OddPayments x = new OddPayments();
        x.pay(1, 0, 0, 1, 5, 0);
        Due.read(x, text);
        due.is(text, x.judged(1, 0, 3), want);
    }

    private static void why() {
        due.promise(17, "judged: why");
        String h = " if sort=0;";
        String n = " if sort=1;";
        whyIs("look 0;", 0);
        whyIs("look 0;block 0;rule 5" + h, 0);
        whyIs("look 6;rule 5" + h, 0);
        whyIs("look 5;rule 5" + h, 1);
        whyIs("look 9;rule 1" + h + "rule 4" + h + "rule 5" + h + "rule 9" + n, 6);
        whyIs("look 9;rule 1" + h + "rule 4" + h + "rule 5" + h + "rule 9" + h, 8);
        whyIs("look 9;rule 5" + h + "rule 4" + h + "rule 5" + h + "rule 4" + h, 3);
        whyIs("look 9;rule 4" + h + "rule 4" + h + "rule 5" + h + "rule 4" + h, 5);
        whyIs("look 3;block 8;rule 4" + h + "rule 4" + h + "rule 7" + h, 3);
        whyIs("look 3;block 9;rule 4" + h + "rule 4" + h + "rule 7" + h, 5);
        whyIs("look 3;block 16;rule 4" + h + "rule 4" + h + "rule 7" + h, 1);
        whyIs("look 5;block 16;rule 4" + h + "rule 4" + h + "rule 7" + h, 4);
        whyIs("block 12;look 1;rule 3" + h + "rule 3" + h + "rule 6" + h + "rule 6" + h + "rule 1" + h, 12);
        whyIs("block 13;look 1;rule 3" + h + "rule 3" + h + "rule 6" + h + "rule 6" + h + "rule 1" + h, 13);
    }

    private static void would() {
        due.promise(18, "would");
        OddPayments x = new OddPayments();
        Due.read(x, "look 1;block 2;rule 1 if amount>100;rule 1 if ratio>1000;rule 5 if sum>50;");
        x.pay(1, 10, 0, 1, 40, 0);
        x.pay(2, 11, 0, 1, 101, 0);
        due.row("acts", new long[] {x.judged(1, 0, 1), x.judged(2, 0, 1)}, 2 - 1, 1);
        due.row("its ratio goes with it", new long[] {x.would(1, 10), x.would(1, 11), x.would(1, 100), x.would(1, 101), x.would(1, 100000)}, 0, 1, 1, 2, 2);
        due.row("by a profile of 10", new long[] {x.would(2, 1), x.would(2, 100), x.would(2, 101), x.would(2, 110), x.would(2, 111)}, 0, 0, 1, 1, 2);
        due.is("nothing changes", x.told(1, 4), 40);
        due.is("others are judged as before", x.judged(2, 0, 1), 1);
        x.pay(3, 9, 0, 1, 60, 0);
        due.is("as all is known: a late one ahead", x.would(1, 1), 2);
        due.all("bad", Due.BAD, x.would(1, 0), x.would(1, 100001), x.would(1, -1), x.would(4, 1), x.would(-1, 1), x.would(1000, 1), x.would(1, Due.MOST));
    }

    private static void acts() {
        due.promise(19, "acts");
        OddPayments x = new OddPayments();
        Due.read(x, "look 1;block 2;rule 1 if amount>10;rule 1 if count>0;");
        x.pay(1, 50, 0, 1, 20, 0);
        x.pay(2, 60, 2, 1, 20, 0);
        x.pay(3, 70, 3, 1, 5, 0);
        due.row("acts", new long[] {x.acts(0), x.acts(1), x.acts(2), x.acts(3)}, 0, 2, 1, 0);
        x.pay(4, 40, 0, 1, 5, 0);
        due.row("a late one ahead", new long[] {x.acts(0), x.acts(1), x.acts(2), x.acts(3)}, 1, 1, 2, 1);
        due.all("bad", Due.BAD, x.acts(-1), x.acts(4), x.acts(Due.MOST));
    }
}
