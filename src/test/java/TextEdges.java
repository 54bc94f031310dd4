import java.util.List;

/** Edges of the promises 13 to 16: the tape, the texts and their faults. */
final class TextEdges {
    private static final int NO_FAULT = 0;
    private static final String TWELVE = "rule 1 if sort=0;".repeat(12);
    private static final List<String> STATEMENTS = List.of("window", "decay", "look", "block", "rule", "");
    private static final List<String> FEATURES = List.of("amount", "sort", "hour", "count", "sum", "payees", "seen", "ratio", "far", "into");
    private static final List<String> ALL = List.of("window", "decay", "look", "block", "rule", "if", "and", "amount", "sort", "hour", "count", "sum", "payees",
            "seen", "ratio", "far", "into", "1", ";", "<", ">", "=", "x", "#", "1234567", "");

    private final Edges e;

    TextEdges(Edges e) {
        this.e = e;
    }

    void run() {
        feedOfEachLength();
        feedOfTheLowestBytes();
        feedRefused();
        feedTillFull();
        tapeIsEmptyThen();
        emptyTexts();
        asToldFromNowOn();
        allStays();
        limits();
        weights();
        numbersOfTests();
        lengthsOfNumbers();
        lengthsOfNames();
        bytesBetween();
        bytesAtTheEnds();
        gapsAreFree();
        whatCannotStandThere();
        theEnd();
        asManyTokensAsBytes();
        thirteenthRule();
        fifthTest();
        firstTokenLeastFault();
        fault();
        rule();
    }

    /** A text on a new object: what rules() answers, and which fault is told. */
    private void reads(String text, int answer, int fault) {
        OddPayments x = new OddPayments();
        Due.feed(x, text);
        e.is("'" + text + "': its bytes", x.count(7), text.length());
        e.is("'" + text + "'", x.rules(), answer);
        e.is("'" + text + "': fault()", x.fault(), fault);
    }

    private void fails(String text, int place, int fault) {
        reads(text, -1000100 - place, fault);
    }

    private void isRead(String text, int rules) {
        reads(text, rules, NO_FAULT);
    }

    // ---- the tape

    private void feedOfEachLength() {
        e.of(13, "The lowest n bytes of w (1 to 8), the highest of them first, come behind the tape: how many it has");
        String text = "look 12;";
        for (int n = 1; n <= 8; n++) {
            OddPayments x = new OddPayments();
            int had = 0;
            for (int i = 0; i < 8; i += n) {
                int now = Math.min(n, 8 - i);
                long w = 0;
                for (int k = 0; k < now; k++) {
                    w = w << 8 | text.charAt(i + k);
                }
                had += now;
                e.is(n + " at a time", x.feed(w, now), had);
                e.is("count(7)", x.count(7), had);
            }
            e.is(n + " at a time, read", x.rules(), 0);
            e.is(n + " at a time: look", x.rule(2), 12);
        }
    }

    private void feedOfTheLowestBytes() {
        e.of(13, "The lowest n bytes of w (1 to 8), the highest of them first");
        OddPayments x = new OddPayments();
        x.feed(-1L << 32 | 0x6c6f6f6b, 4);
        x.feed(Long.MIN_VALUE | ' ', 1);
        x.feed(0x7fffff00_39313b00L >> 8, 3);
        e.row("the higher ones do not come", Edges.r(x.count(7), x.rules(), x.rule(2)), 8, 0, 91);
        e.is("eight of them", x.feed(0x6c6f6f6b_20_39_37_3bL, 8), 8);
        e.row("eight of them", Edges.r(x.rules(), x.rule(2)), 0, 97);
        e.is("bytes of 0", x.feed(0, 8), 8);
        e.is("are no tokens", x.rules(), -1000100);
        e.is("the highest is 255", x.feed(-1L, 8), 8);
        e.is("is no token", x.rules(), -1000100);
        x.feed(0x6c6f6f6b_20_31_3b_ffL, 8);
        e.is("the lowest is 255", x.rules(), -1000107);
    }

    private void feedRefused() {
        e.of(13, "BAD: n");
        OddPayments x = new OddPayments();
        e.all("n", Due.BAD, x.feed('x', 0), x.feed('x', -1), x.feed('x', 9), x.feed('x', Due.LEAST), x.feed('x', Due.MOST), x.feed('x', 256), x.feed('x', 264));
        e.is("none came", x.count(7), 0);
        e.row("the least and the greatest", Edges.r(x.feed('x', 1), x.feed('x', 8)), 1, 9);
    }

    private void feedTillFull() {
        e.of(13, "THE TAPE has at most 600 bytes");
        OddPayments x = new OddPayments();
        for (int i = 1; i <= 74; i++) {
            e.is("feed", x.feed(0x2020202020202020L, 8), 8 * i);
        }
        e.is("592 and 8", x.feed(0x202020206c6f6f6bL, 8), 600);
        e.of(13, "FULL: none comes");
        e.all("full", Due.FULL, x.feed(' ', 1), x.feed(' ', 8));
        e.is("count(7)", x.count(7), 600);
        e.is("the end is at 600", x.rules(), -1000700);
        for (int i = 1; i <= 74; i++) {
            x.feed(0x2020202020202020L, 8);
        }
        e.is("599", x.feed(0x20206c6f6f6b20L, 7), 599);
        e.all("more than one byte is too many", Due.FULL, x.feed(0x313b, 2), x.feed(' ', 8), x.feed(' ', 3));
        e.is("none came", x.count(7), 599);
        e.of(13, "the first of these that fits: BAD");
        e.all("BAD ahead of FULL", Due.BAD, x.feed(' ', 0), x.feed(' ', 9));
        e.of(13, "THE TAPE has at most 600 bytes");
        e.is("the last one", x.feed('x', 1), 600);
        e.is("full", x.feed(' ', 1), Due.FULL);
        e.is("the last byte is read", x.rules(), -1000100 - 599);
        e.is("empty then", x.feed('x', 1), 1);
    }

    private void tapeIsEmptyThen() {
        e.of(14, "The tape, empty then, is read: how many RULES");
        OddPayments x = new OddPayments();
        e.row("a good text", Edges.r(Due.read(x, "rule 1 if sort=0;"), x.count(7), x.count(2)), 1, 0, 1);
        e.row("a faulty one", Edges.r(Due.read(x, "rule 1 if sort=0;rule"), x.count(7), x.count(2)), -1000121, 0, 1);
        e.row("the next one is read alone", Edges.r(Due.read(x, "rule 1 if sort=1;rule 1 if sort=0;"), x.count(2)), 2, 2);
        e.row("none, twice", Edges.r(x.rules(), x.count(2), x.rules()), 0, 0, 0);
    }

    private void emptyTexts() {
        e.of(14, "text: { 'window' NUMBER ';'");
        isRead("", 0);
        isRead(" ", 0);
        isRead("\n", 0);
        isRead(" \n \n\n  ", 0);
        isRead(" ".repeat(600), 0);
        isRead("\n".repeat(600), 0);
        isRead("window 1;", 0);
        isRead("decay 1;", 0);
    }

    private void asToldFromNowOn() {
        e.of(14, "they, WINDOW, DECAY, LOOK, BLOCK are as told from now on");
        OddPayments x = new OddPayments();
        x.pay(1, 10, 0, 1, 40, 0);
        x.pay(2, 15, 0, 1, 40, 0);
        Due.read(x, "window 5;decay 5;look 1;block 3;rule 2 if count=0;");
        e.row("limits", Edges.limits(x), 5, 5, 1, 3);
        e.row("of payments that are there", Edges.r(x.feature(2, 3, 0), x.profile(2, 0), x.judged(2, 0, 0), x.judged(2, 0, 1)), 0, 8, 2, 1);
        Due.read(x, "rule 3 if count=1;rule 4 if amount>1;");
        e.row("those not told are as without one", Edges.limits(x), 100, 50, 10, 20);
        e.row("in place of the ones before", Edges.r(x.feature(2, 3, 0), x.profile(2, 0), x.judged(2, 0, 0), x.judged(2, 0, 2), x.judged(2, 0, 1)), 1, 10, 7, 3, 0);
        Due.read(x, "");
        e.row("an empty text", Edges.r(x.count(2), x.judged(2, 0, 0), x.judged(2, 0, 2)), 0, 0, 0);
        e.of(14, "the last one told");
        Due.read(x, "look 3;window 7;look 5;rule 1 if sort=0;window 8;block 9;decay 2;decay 3;block 1;look 4;");
        e.row("limits", Edges.limits(x), 8, 3, 4, 1);
    }

    private void allStays() {
        e.of(14, "-1000100 less the place of a FAULT: all stays");
        for (String faulty : new String[] {"rule", "window 1;decay 1;look 0;block 0;;", "rule 9 if sort=1;rule 9 if sort=1;rule 9 if sort=1", "look 0;look 20001;", "x"}) {
            OddPayments x = new OddPayments();
            x.pay(1, 10, 0, 1, 40, 0);
            Due.read(x, "window 5;decay 6;look 7;block 8;rule 2 if sort=0;rule 5 if sort<3;");
            e.is("it is faulty", Due.read(x, faulty) <= -1000100 ? 1 : 0, 1);
            e.row("limits", Edges.limits(x), 5, 6, 7, 8);
            e.row("rules", Edges.r(x.count(2), x.judged(1, 0, 0), x.judged(1, 0, 1), x.judged(1, 0, 2), x.judged(1, 0, 3)), 2, 7, 1, 3, 3);
            e.is("a good text behind it", Due.read(x, "rule 3 if sort=0;"), 1);
            e.row("nothing is left of the faulty one", Edges.limits(x), 100, 50, 10, 20);
            e.row("its rules", Edges.r(x.count(2), x.judged(1, 0, 0), x.judged(1, 0, 2)), 1, 3, 1);
        }
    }

    // ---- numbers that are as told, or not

    private void limit(String name, int what, int least, int most, int place) {
        OddPayments x = new OddPayments();
        e.is(name + ", the least", Due.read(x, name + " " + least + ";"), 0);
        e.is(name + ", the least", x.rule(what), least);
        e.is(name + ", the greatest", Due.read(x, name + " " + most + ";"), 0);
        e.is(name + ", the greatest", x.rule(what), most);
        fails(name + " " + (most + 1) + ";", place, 2);
        fails(name + " 999999;", place, 2);
        if (least > 0) {
            fails(name + " " + (least - 1) + ";", place, 2);
            fails(name + " 000000;", place, 2);
        }
        fails(name + " -1;", place, 1);
    }

    private void limits() {
        e.of(14, "WINDOW 1 to 100000 (100 without one)");
        limit("window", 0, 1, 100000, 7);
        e.of(14, "DECAY 1 to 100000 (50)");
        limit("decay", 1, 1, 100000, 6);
        e.of(14, "LOOK 0 to 20000 (10)");
        limit("look", 2, 0, 20000, 5);
        e.of(14, "BLOCK 0 to 20000 (20): the last one told");
        limit("block", 3, 0, 20000, 6);
        e.of(14, "2 a NUMBER that is not as told");
        fails("window 5;decay 5;look 5;block 20001;", 30, 2);
        fails("window 5;window 0;window 5;", 16, 2);
    }

    private void weights() {
        e.of(14, "a RULE's WEIGHT 1 to 1000");
        for (int weight : new int[] {1, 2, 999, 1000}) {
            OddPayments x = new OddPayments();
            x.pay(1, 10, 0, 1, 40, 0);
            e.is("weight " + weight, Due.read(x, "rule " + weight + " if sort=0;"), 1);
            e.is("score", x.judged(1, 0, 0), weight);
        }
        fails("rule 0 if sort=0;", 5, 2);
        fails("rule 1001 if sort=0;", 5, 2);
        fails("rule 999999 if sort=0;", 5, 2);
        fails("rule 1 if sort=0; rule 1001 if sort=0;", 23, 2);
    }

    private void numbersOfTests() {
        e.of(14, "a test's NUMBER 0 to 999999");
        isRead("rule 1 if ratio>0;", 1);
        isRead("rule 1 if ratio>999999;", 1);
        isRead("rule 1 if ratio=000000 and sum<999999;", 1);
        fails("rule 1 if ratio>1000000;", 16, 1);
        fails("rule 1 if ratio>-1;", 16, 1);
        OddPayments x = new OddPayments();
        x.pay(1, 10, 0, 1, 9999, 0);
        x.pay(2, 10, 2, 1, 10000, 0);
        Due.read(x, "rule 1 if ratio>999999;rule 2 if ratio<999999;rule 4 if amount<0;rule 8 if sort>0;rule 16 if sort=0;");
        e.row("999900 and 1000000 by 999999", Edges.r(x.judged(1, 0, 0), x.judged(2, 0, 0)), 18, 17);
    }

    // ---- tokens

    private void lengthsOfNumbers() {
        e.of(14, "NUMBERS (figures, 6 at most)");
        isRead("look 000001;", 0);
        isRead("window 100000;", 0);
        isRead("rule 001000 if sort=000003;", 1);
        fails("look 0000001;", 5, 1);
        fails("look 0000000;", 5, 1);
        fails("look 1234567;", 5, 1);
        fails("window 0100000;", 7, 1);
        fails("rule 0000001 if sort=1;", 5, 1);
        fails("look 123456789012345678901234567890;", 5, 1);
        fails("look 1 234567;", 7, 1);
        for (char c = '0'; c <= '9'; c++) {
            OddPayments x = new OddPayments();
            e.is("figure " + c, Due.read(x, "block 1" + c + c + ";"), 0);
            e.is("figure " + c, x.rule(3), 100 + 11 * (c - '0'));
        }
    }

    private void lengthsOfNames() {
        e.of(14, "NAMES (letters a to z, 6 at most)");
        isRead("window 1;rule 1 if amount=1 and payees=1;", 1);
        fails("windoww 1;", 0, 1);
        fails("wwindow 1;", 0, 1);
        fails("windo 1;", 0, 1);
        fails("rule 1 if amounts=1;", 10, 1);
        fails("rule 1 if amoun=1;", 10, 1);
        fails("rule 1 if payeess=1;", 10, 1);
        fails("lookblock 1;", 0, 1);
        fails("looklooklooklook 1;", 0, 1);
        fails("rule 1 ifsort=1;", 7, 1);
        fails("rule 1 if sort=1 andsort=1;", 17, 1);
        fails("Look 1;", 0, 1);
        fails("looK 1;", 0, 1);
        fails("lookK 1;", 4, 1);
        fails("LOOK 1;", 0, 1);
        fails("a 1;", 0, 1);
        fails("z 1;", 0, 1);
        for (String name : new String[] {"amount", "sort", "hour", "count", "sum", "payees", "seen", "ratio", "far", "into"}) {
            isRead("rule 1 if " + name + "=1;", 1);
            fails("rule 1 if " + name.substring(0, name.length() - 1) + "=1;", 10, 1);
            fails("rule 1 if " + name + "s=1;", 10, 1);
            fails("rule 1 if " + name.substring(1) + "=1;", 10, 1);
        }
        for (String name : new String[] {"window", "decay", "look", "block"}) {
            isRead(name + " 1;", 0);
            fails(name.substring(0, name.length() - 1) + " 1;", 0, 1);
            fails(name + "s 1;", 0, 1);
            fails(name.substring(1) + " 1;", 0, 1);
        }
    }

    private void bytesBetween() {
        e.of(14, "bytes 32 and 10 between");
        for (int b = 0; b < 256; b++) {
            String text = "look" + (char) b + "3;";
            boolean gap = b == 32 || b == 10;
            if (gap || b >= '0' && b <= '9') {
                isRead(text, 0);
            } else {
                fails(text, b >= 'a' && b <= 'z' ? 0 : 4, 1);
            }
        }
        fails("look\t3;", 4, 1);
        fails("look\r\n3;", 4, 1);
    }

    private void bytesAtTheEnds() {
        e.of(14, "1 it cannot stand there, or is none");
        for (int b = 0; b < 256; b++) {
            boolean gap = b == 32 || b == 10;
            String text = "look 3;" + (char) b;
            if (gap) {
                isRead(text, 0);
            } else {
                fails(text, 7, 1);
            }
            text = (char) b + "look 3;";
            if (gap) {
                isRead(text, 0);
            } else {
                fails(text, 0, 1);
            }
        }
    }

    private void gapsAreFree() {
        e.of(14, "SIGNS ; < > = bytes 32 and 10 between");
        OddPayments x = new OddPayments();
        x.pay(1, 10, 0, 1, 40, 2);
        e.is("none", Due.read(x, "look3;block40;rule7if sort=2and hour<11and amount>39;"), 1);
        e.row("none", Edges.r(x.rule(2), x.rule(3), x.judged(1, 0, 0)), 3, 40, 7);
        e.is("many", Due.read(x, "\n look \n\n 4 ; block\n41\n;\nrule \n 8 if sort = 2 and\nhour\n<\n11   and amount > 39 ; "), 1);
        e.row("many", Edges.r(x.rule(2), x.rule(3), x.judged(1, 0, 0)), 4, 41, 8);
        fails("look 1 2;", 7, 1);
        fails("lo ok 1;", 0, 1);
        fails("rule 1 if so rt=1;", 10, 1);
    }

    // ---- faults

    /** What may stand behind so many tokens of the text below. */
    private static List<String> allowedAt(int k) {
        switch (k) {
            case 0: case 3: case 14: return STATEMENTS;
            case 1: case 4: case 8: case 12: return List.of("1");
            case 2: return List.of(";");
            case 5: return List.of("if");
            case 6: case 10: return FEATURES;
            case 7: case 11: return List.of("<", ">", "=");
            default: return List.of("and", ";");
        }
    }

    private void whatCannotStandThere() {
        e.of(14, "FAULTS, the first TOKEN that has one (its first byte)");
        String[] text = {"look", "3", ";", "rule", "4", "if", "sort", "=", "1", "and", "hour", "<", "2", ";"};
        StringBuilder ahead = new StringBuilder();
        for (int k = 0; k <= text.length; k++) {
            for (String token : ALL) {
                if (!allowedAt(k).contains(token)) {
                    String rest = token.isEmpty() ? "" : " 1 ;";
                    fails(ahead + token + rest, ahead.length(), 1);
                }
            }
            ahead.append(k < text.length ? text[k] + " " : "");
        }
        isRead(ahead.toString(), 1);
    }

    private void theEnd() {
        e.of(14, "(the end: how many bytes there are)");
        fails("look", 4, 1);
        fails("look ", 5, 1);
        fails("look\n\n\n", 7, 1);
        fails("look 3", 6, 1);
        fails("look 3 ", 7, 1);
        fails("rule 1 if sort=1", 16, 1);
        fails("rule 1 if sort=1 and ", 21, 1);
        fails("look" + " ".repeat(596), 600, 1);
        fails(" ".repeat(596) + "look", 600, 1);
        fails(" ".repeat(594) + "look 1", 600, 1);
        isRead(" ".repeat(593) + "look 1;", 0);
        fails(" ".repeat(593) + "look 1x", 599, 1);
    }

    private void asManyTokensAsBytes() {
        e.of(14, "FAULTS, the first TOKEN that has one (its first byte)");
        fails(";".repeat(600), 0, 1);
        fails("#".repeat(600), 0, 1);
        fails("1".repeat(600), 0, 1);
        fails("z".repeat(600), 0, 1);
        fails("look 1" + ";".repeat(594), 7, 1);
        fails("look 1;" + "=#".repeat(296) + ">", 7, 1);
        fails("rule 1 if sort" + "=".repeat(586), 15, 1);
        isRead("look 1;".repeat(85) + "    \n", 0);
        isRead("look1;".repeat(100), 0);
        fails("look1;".repeat(99) + "look1 ", 600, 1);
    }

    private void thirteenthRule() {
        e.of(14, "3 the 13th RULE (its word)");
        isRead(TWELVE, 12);
        isRead(TWELVE + "look 1;window 1; ", 12);
        fails(TWELVE + "rule 1 if sort=0;", 204, 3);
        fails(TWELVE + "rule", 204, 3);
        fails(TWELVE + "rule 0", 204, 3);
        fails(TWELVE + "look 1; rule x", 212, 3);
        fails(TWELVE + "rules 1 if sort=0;", 204, 1);
        isRead("rule 1 if sort=0;".repeat(11), 11);
        isRead("look 1;".repeat(20) + "block 1;".repeat(20), 0);
        OddPayments x = new OddPayments();
        Due.read(x, TWELVE);
        e.is("a new text begins anew", Due.read(x, TWELVE), 12);
    }

    private void fifthTest() {
        e.of(14, "the 5th test of one (its 'and')");
        String four = "rule 1 if sort=1 and sort=2 and sort=3 and sort=4";
        isRead(four + ";", 1);
        isRead(four + ";" + four + ";", 2);
        fails(four + " and sort=5;", 50, 3);
        fails(four + " and", 50, 3);
        fails(four + "and;", 49, 3);
        fails(four + " ands", 50, 1);
        fails(four, 49, 1);
        fails(four + ";" + four + " and sort=5;", 100, 3);
        isRead("rule 1 if sort=1 and sort=1;rule 1 if sort=1 and sort=1;rule 1 if sort=1 and sort=1;", 3);
    }

    private void firstTokenLeastFault() {
        e.of(14, "FAULTS, the first TOKEN that has one");
        fails("look 20001;look x;", 5, 2);
        fails("look x;look 20001;", 5, 1);
        fails(TWELVE + "look 20001;rule 1 if sort=0;", 209, 2);
        fails(TWELVE + "rule 1 if sort=0;look 20001;", 204, 3);
        fails("rule 1001 if sort=1 and sort=1 and sort=1 and sort=1 and", 5, 2);
        e.of(14, "of one TOKEN the least");
        fails("look 5 20001;", 7, 1);
        fails("20001", 0, 1);
        fails("rule 1 0", 7, 1);
        fails(TWELVE + "look rule", 209, 1);
        fails(TWELVE.substring(0, 203) + "rule", 203, 1);
        fails("look 1 and", 7, 1);
    }

    private void fault() {
        OddPayments x = new OddPayments();
        e.of(15, "0 before one");
        e.is("a new object", x.fault(), 0);
        Due.read(x, "look 1;");
        e.is("a good text", x.fault(), 0);
        x.feed('x', 9);
        x.rule(7);
        e.is("a refused call is no fault", x.fault(), 0);
        Due.feed(x, "look");
        e.is("a text that is not read yet", x.fault(), 0);
        e.of(15, "The number of the latest FAULT");
        x.rules();
        e.is("1", x.fault(), 1);
        Due.read(x, "look 20001;");
        e.is("2", x.fault(), 2);
        Due.read(x, TWELVE + "rule");
        e.is("3", x.fault(), 3);
        Due.read(x, "look 1;");
        e.is("a good text is none", x.fault(), 3);
        x.rules();
        e.is("nor is an empty one", x.fault(), 3);
        Due.read(x, "window 0;");
        e.is("2", x.fault(), 2);
    }

    private void rule() {
        e.of(16, "WINDOW (what = 0), DECAY (1), LOOK (2), BLOCK (3)");
        OddPayments x = new OddPayments();
        Due.read(x, "block 11;look 22;decay 33;window 44;");
        e.row("limits", Edges.limits(x), 44, 33, 22, 11);
        e.of(16, "BAD");
        e.all("what", Due.BAD, x.rule(-1), x.rule(4), x.rule(Due.LEAST), x.rule(Due.MOST));
    }
}
