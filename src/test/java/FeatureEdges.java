/** Edges of the promises 11 and 12. */
final class FeatureEdges {
    private static final int COUNT = 3, SUM = 4, PAYEES = 5, SEEN = 6, RATIO = 7, FAR = 8, INTO = 9;

    private final Edges e;

    FeatureEdges(Edges e) {
        this.e = e;
    }

    void run() {
        featuresOfOneAlone();
        hour();
        countInTheWindow();
        leastAndGreatestWindow();
        aheadByTags();
        aheadAsKnown();
        sum();
        payees();
        seen();
        ratio();
        farOfTheMarked();
        farByLinks();
        farUpToEight();
        farByThoseAhead();
        into();
        featureRefused();
        profileAtFirst();
        profileGrows();
        profileFades();
        profileFadesPieceByPiece();
        profileFadesToTheEnd();
        profileInOrder();
        profileAsKnown();
        profileRefused();
    }

    private static long[] features(OddPayments x, int tag, int known) {
        long[] row = new long[10];
        for (int f = 0; f < 10; f++) {
            row[f] = x.feature(tag, f, known);
        }
        return row;
    }

    private void featuresOfOneAlone() {
        e.of(11, "FEATURES of a PAYMENT p, by WINDOW and DECAY: 0 amount");
        OddPayments x = new OddPayments();
        x.pay(0, 0, 0, 1, 1, 0);
        x.pay(999, 100000, 19, 18, 100000, 3);
        e.row("amounts", Edges.r(x.feature(0, 0, 0), x.feature(999, 0, 0)), 1, 100000);
        e.of(11, "1 sort");
        e.row("sorts", Edges.r(x.feature(0, 1, 0), x.feature(999, 1, 0)), 0, 3);
        e.of(11, "FEATURE (0 to 9) of a PAYMENT AS KNOWN 0, 1");
        for (int known = 0; known < 2; known++) {
            e.row("the least", features(x, 0, known), 1, 0, 0, 0, 0, 1, 0, 100, 9, 0);
            e.row("the greatest", features(x, 999, known), 100000, 3, 16, 0, 0, 1, 0, 10000000, 9, 0);
        }
    }

    private void hour() {
        e.of(11, "2 hour: its time modulo 24");
        OddPayments x = new OddPayments();
        int[] times = {0, 1, 23, 24, 25, 47, 48, 99983, 99984, 100000};
        int[] hours = {0, 1, 23, 0, 1, 23, 0, 23, 0, 16};
        for (int i = 0; i < times.length; i++) {
            x.pay(i, times[i], 0, 1, 1, 0);
            e.is("of time " + times[i], x.feature(i, 2, 0), hours[i]);
        }
    }

    /** One payment of payer 0 at a time, then p by it at another: how many are counted for p. */
    private static int counted(String limits, int time, int timeOfP) {
        OddPayments x = new OddPayments();
        Due.read(x, limits);
        x.pay(1, time, 0, 1, 1, 0);
        x.pay(2, timeOfP, 0, 2, 1, 0);
        return x.feature(2, COUNT, 0);
    }

    private void countInTheWindow() {
        e.of(11, "3 count: of those AHEAD with a time above p's less WINDOW how many have its PAYER");
        e.row("a window of 100, without one told", Edges.r(counted("", 0, 100), counted("", 0, 99), counted("", 100, 200), counted("", 101, 200), counted("", 200, 200)),
                0, 1, 0, 1, 1);
        e.row("a window of 10", Edges.r(counted("window 10;", 90, 100), counted("window 10;", 91, 100), counted("window 10;", 0, 9), counted("window 10;", 0, 10)),
                0, 1, 1, 0);
        e.is("one behind it", counted("", 201, 200), 0);
        OddPayments x = new OddPayments();
        x.pay(1, 50, 1, 0, 1, 0);
        x.pay(2, 50, 2, 3, 1, 0);
        x.pay(3, 50, 0, 3, 1, 0);
        e.is("its payer is not theirs", x.feature(3, COUNT, 0), 0);
    }

    private void leastAndGreatestWindow() {
        e.of(11, "WINDOW 1 to 100000 (100 without one)");
        e.row("the least: of its own time alone", Edges.r(counted("window 1;", 99, 100), counted("window 1;", 100, 100)), 0, 1);
        e.row("the greatest", Edges.r(counted("window 100000;", 0, 100000), counted("window 100000;", 1, 100000), counted("window 100000;", 0, 99999), counted("window 100000;", 0, 0)),
                0, 1, 1, 1);
    }

    private void aheadByTags() {
        e.of(11, "AHEAD of a PAYMENT are those before it in ORDER");
        OddPayments x = new OddPayments();
        x.pay(499, 70, 0, 1, 10, 0);
        x.pay(500, 70, 0, 1, 20, 0);
        x.pay(501, 70, 0, 1, 40, 0);
        x.pay(0, 71, 0, 1, 80, 0);
        x.pay(999, 69, 0, 1, 160, 0);
        e.row("sums of those ahead", Edges.r(x.feature(999, SUM, 0), x.feature(499, SUM, 0), x.feature(500, SUM, 0), x.feature(501, SUM, 0), x.feature(0, SUM, 0)),
                0, 160, 170, 190, 230);
        e.row("how many", Edges.r(x.feature(999, COUNT, 0), x.feature(499, COUNT, 0), x.feature(500, COUNT, 0), x.feature(501, COUNT, 0), x.feature(0, COUNT, 0)),
                0, 1, 2, 3, 4);
    }

    private void aheadAsKnown() {
        e.of(11, "of all that came till now (AS KNOWN 0), or that came no later than it (AS KNOWN 1)");
        OddPayments x = new OddPayments();
        x.pay(1, 10, 0, 1, 10, 0);
        x.pay(9, 50, 0, 1, 20, 0);
        x.pay(2, 20, 0, 1, 40, 0);
        x.pay(3, 50, 0, 1, 80, 0);
        e.row("as all is known", Edges.r(x.feature(1, SUM, 0), x.feature(9, SUM, 0), x.feature(2, SUM, 0), x.feature(3, SUM, 0)), 0, 130, 10, 50);
        e.row("as it was known then", Edges.r(x.feature(1, SUM, 1), x.feature(9, SUM, 1), x.feature(2, SUM, 1), x.feature(3, SUM, 1)), 0, 10, 10, 50);
        e.row("of all features, as all is known", features(x, 9, 0), 20, 0, 2, 3, 130, 1, 3, 2000 / 29, 9, 3);
        e.row("of all features, as it was known then", features(x, 9, 1), 20, 0, 2, 1, 10, 1, 1, 2000 / 3, 9, 1);
    }

    private void sum() {
        e.of(11, "4 sum: the amounts of these, added");
        OddPayments x = new OddPayments();
        Due.read(x, "window 100000;");
        for (int i = 0; i < 119; i++) {
            x.pay(i, i, 0, 1 + i % 19, 100000, 0);
        }
        x.pay(999, 99999, 0, 1, 1, 0);
        e.row("of as many as there can be", Edges.r(x.feature(999, COUNT, 0), x.feature(999, SUM, 0), x.feature(999, SUM, 1)), 119, 11900000, 11900000);
        e.is("of none", x.feature(0, SUM, 0), 0);
        e.of(11, "5 payees: how many unlike PAYEES these and p have");
        e.is("as many as there can be", x.feature(999, PAYEES, 0), 19);
        e.of(11, "6 seen: how many AHEAD (at any time) have its PAYER and PAYEE");
        e.is("of 119, one in nineteen", x.feature(999, SEEN, 0), 7);
        e.of(11, "9 into: how many AHEAD with a time above p's less WINDOW have its PAYEE");
        e.is("of 119, one in nineteen", x.feature(999, INTO, 0), 7);
    }

    private void payees() {
        e.of(11, "5 payees: how many unlike PAYEES these and p have");
        OddPayments x = new OddPayments();
        Due.read(x, "window 10;");
        x.pay(1, 90, 0, 5, 1, 0);
        x.pay(900, 100, 0, 1, 1, 0);
        e.is("p's alone: the other is out of the window", x.feature(900, PAYEES, 0), 1);
        x.pay(2, 91, 0, 1, 1, 0);
        e.is("one that is p's, too", x.feature(900, PAYEES, 0), 1);
        x.pay(3, 91, 0, 19, 1, 0);
        e.is("another", x.feature(900, PAYEES, 0), 2);
        x.pay(4, 92, 0, 19, 1, 0);
        e.is("the same again", x.feature(900, PAYEES, 0), 2);
        x.pay(5, 93, 2, 7, 1, 0);
        e.is("one of another payer", x.feature(900, PAYEES, 0), 2);
        x.pay(901, 100, 0, 8, 1, 0);
        e.is("one behind", x.feature(900, PAYEES, 0), 2);
        e.is("as it was known then", x.feature(900, PAYEES, 1), 1);
    }

    private void seen() {
        e.of(11, "6 seen: how many AHEAD (at any time) have its PAYER and PAYEE");
        OddPayments x = new OddPayments();
        Due.read(x, "window 1;");
        x.pay(900, 100000, 3, 4, 1, 0);
        e.is("none", x.feature(900, SEEN, 0), 0);
        x.pay(1, 0, 3, 4, 1, 0);
        e.is("one of the first time", x.feature(900, SEEN, 0), 1);
        x.pay(2, 99999, 4, 3, 1, 0);
        x.pay(3, 99999, 3, 5, 1, 0);
        x.pay(4, 99999, 5, 4, 1, 0);
        e.is("the other way, another payee, another payer", x.feature(900, SEEN, 0), 1);
        x.pay(5, 100000, 3, 4, 1, 0);
        x.pay(901, 100000, 3, 4, 1, 0);
        e.row("of its time", Edges.r(x.feature(900, SEEN, 0), x.feature(901, SEEN, 0), x.feature(900, SEEN, 1)), 2, 3, 0);
    }

    private static int ratioAfter(int amount, int ofP) {
        OddPayments x = new OddPayments();
        x.pay(1, 5, 0, 1, amount, 0);
        x.pay(2, 5, 0, 1, ofP, 0);
        return x.feature(2, RATIO, 0);
    }

    private void ratio() {
        e.of(11, "7 ratio: its amount times 100 by (PROFILE and 1)");
        e.row("by a profile of 0", Edges.r(ratioAfter(3, 1), ratioAfter(3, 100000)), 100, 10000000);
        e.row("by a profile of 1", Edges.r(ratioAfter(4, 1), ratioAfter(4, 3), ratioAfter(4, 100000)), 50, 150, 5000000);
        e.row("of 1, by profiles of 98, 99, 100", Edges.r(ratioAfter(395, 1), ratioAfter(396, 1), ratioAfter(400, 1)), 1, 1, 0);
        e.of(11, "All that is divided is cut towards 0");
        e.row("cut", Edges.r(ratioAfter(8, 1), ratioAfter(8, 2), ratioAfter(24, 1)), 33, 66, 14);
    }

    private void farOfTheMarked() {
        e.of(11, "from its PAYEE to some MARKED one (0: it is MARKED)");
        for (int who = 0; who < 20; who++) {
            OddPayments x = new OddPayments();
            x.pay(5, 10, (who + 1) % 20, who, 1, 0);
            x.mark((who + 1) % 20, 1);
            e.is("its payer is marked: p is no link", x.feature(5, FAR, 0), 9);
            x.mark(who, 1);
            e.row("its payee is marked", Edges.r(x.feature(5, FAR, 0), x.feature(5, FAR, 1)), 0, 0);
            x.mark(who, 0);
            e.is("no more", x.feature(5, FAR, 0), 9);
        }
        e.of(11, "9, if there are none, or more than 8");
        OddPayments x = new OddPayments();
        x.pay(1, 10, 2, 3, 1, 0);
        x.pay(2, 11, 1, 2, 1, 0);
        e.row("none is marked", Edges.r(x.feature(1, FAR, 0), x.feature(2, FAR, 0)), 9, 9);
        for (int who = 4; who < 20; who++) {
            x.mark(who, 1);
        }
        x.mark(0, 1);
        e.is("none that is marked is linked", x.feature(2, FAR, 0), 9);
    }

    private void farByLinks() {
        e.of(11, "LINKED by a PAYMENT are its PAYER and PAYEE");
        OddPayments x = new OddPayments();
        Due.read(x, "window 1;");
        x.mark(7, 1);
        x.pay(1, 0, 5, 7, 1, 0);
        x.pay(2, 100000, 4, 5, 1, 0);
        e.is("from the payer to the payee, at any time", x.feature(2, FAR, 0), 1);
        x.pay(3, 1, 8, 6, 1, 0);
        x.pay(4, 2, 7, 8, 1, 0);
        x.pay(5, 100000, 4, 6, 1, 0);
        e.is("from the payee to the payer, twice", x.feature(5, FAR, 0), 2);
        x.pay(6, 3, 9, 10, 1, 0);
        x.pay(8, 100000, 4, 9, 1, 0);
        e.is("no way", x.feature(8, FAR, 0), 9);
        e.of(11, "8 far: the fewest LINKS");
        x.pay(7, 4, 6, 7, 1, 0);
        e.is("a shorter way beside a longer one", x.feature(5, FAR, 0), 1);
        x.mark(6, 1);
        e.is("the nearest of two", x.feature(5, FAR, 0), 0);
    }

    /** A chain 0 - 1 - .. - 19, and p whose payee is its beginning; p's payer is marked to show that p is no link. */
    private void farUpToEight() {
        e.of(11, "9, if there are none, or more than 8");
        OddPayments x = new OddPayments();
        for (int i = 0; i < 18; i++) {
            x.pay(i, 18 - i, i % 3 == 0 ? i : i + 1, i % 3 == 0 ? i + 1 : i, 1, 0);
        }
        x.pay(500, 50, 19, 0, 1, 0);
        x.mark(19, 1);
        for (int far = 18; far >= 0; far--) {
            x.mark(far, 1);
            e.is(far + " links", x.feature(500, FAR, 0), Math.min(far, 9));
            e.is(far + " links, as it was known then", x.feature(500, FAR, 1), Math.min(far, 9));
        }
    }

    private void farByThoseAhead() {
        e.of(11, "8 far: the fewest LINKS, by those AHEAD");
        OddPayments x = new OddPayments();
        x.mark(9, 1);
        x.pay(50, 100, 0, 1, 1, 0);
        x.pay(51, 100, 1, 9, 1, 0);
        e.is("one behind it by its tag", x.feature(50, FAR, 0), 9);
        x.pay(1, 101, 1, 9, 1, 0);
        e.is("one behind it by its time", x.feature(50, FAR, 0), 9);
        x.pay(49, 100, 1, 9, 1, 0);
        e.row("one ahead by its tag, that came late", Edges.r(x.feature(50, FAR, 0), x.feature(50, FAR, 1)), 1, 9);
    }

    private void into() {
        e.of(11, "9 into: how many AHEAD with a time above p's less WINDOW have its PAYEE");
        OddPayments x = new OddPayments();
        Due.read(x, "window 10;");
        x.pay(500, 100, 0, 1, 1, 0);
        x.pay(1, 90, 2, 1, 1, 0);
        e.is("just out of the window", x.feature(500, INTO, 0), 0);
        x.pay(2, 91, 2, 1, 1, 0);
        e.is("just in it", x.feature(500, INTO, 0), 1);
        x.pay(3, 91, 0, 1, 1, 0);
        e.is("by its payer", x.feature(500, INTO, 0), 2);
        x.pay(4, 95, 1, 0, 1, 0);
        x.pay(5, 95, 0, 2, 1, 0);
        e.is("from its payee, to another", x.feature(500, INTO, 0), 2);
        x.pay(499, 100, 3, 1, 1, 0);
        x.pay(501, 100, 3, 1, 1, 0);
        e.row("of its time", Edges.r(x.feature(500, INTO, 0), x.feature(501, INTO, 0), x.feature(500, INTO, 1)), 3, 4, 0);
    }

    private void featureRefused() {
        e.of(11, "FEATURE (0 to 9) of a PAYMENT AS KNOWN 0, 1");
        OddPayments x = new OddPayments();
        x.pay(0, 5, 0, 1, 7, 2);
        x.pay(999, 5, 0, 1, 7, 2);
        e.row("first and last features", Edges.r(x.feature(0, 0, 0), x.feature(0, 0, 1), x.feature(999, 9, 0), x.feature(999, 9, 1)), 7, 7, 1, 1);
        e.of(11, "BAD");
        e.all("feature", Due.BAD, x.feature(0, -1, 0), x.feature(0, 10, 0), x.feature(0, Due.LEAST, 0), x.feature(0, Due.MOST, 0));
        e.all("known", Due.BAD, x.feature(0, 0, -1), x.feature(0, 0, 2), x.feature(0, 0, Due.LEAST), x.feature(0, 0, Due.MOST));
        e.all("tag", Due.BAD, x.feature(-1, 0, 0), x.feature(1, 0, 0), x.feature(998, 0, 0), x.feature(1000, 0, 0), x.feature(Due.LEAST, 0, 0), x.feature(Due.MOST, 0, 0));
    }

    private void profileAtFirst() {
        e.of(12, "PROFILE of p: 0 at first");
        OddPayments x = new OddPayments();
        x.pay(1, 50, 1, 0, 100000, 0);
        x.pay(2, 50, 0, 1, 100000, 0);
        e.row("none ahead with its payer", Edges.r(x.profile(1, 0), x.profile(2, 0), x.profile(2, 1)), 0, 0, 0);
    }

    /** Payments of payer 0 at one time, the last one of which is p: no time goes by. */
    private static int profileOf(int... amounts) {
        OddPayments x = new OddPayments();
        for (int i = 0; i < amounts.length; i++) {
            x.pay(i, 500, 0, 1, amounts[i], 0);
        }
        x.pay(999, 500, 0, 1, 1, 0);
        return x.profile(999, 0);
    }

    private void profileGrows() {
        e.of(12, "then it is more by (that amount less it) by 4");
        e.row("of one", Edges.r(profileOf(1), profileOf(3), profileOf(4), profileOf(7), profileOf(8), profileOf(100000)), 0, 0, 1, 1, 2, 25000);
        e.row("of two", Edges.r(profileOf(40, 13), profileOf(40, 14), profileOf(40, 40), profileOf(100000, 100000)), 10, 11, 17, 43750);
        e.of(12, "All that is divided is cut towards 0");
        e.row("less, cut towards 0", Edges.r(profileOf(40, 10), profileOf(40, 9), profileOf(40, 7), profileOf(40, 6), profileOf(40, 3), profileOf(40, 2), profileOf(40, 1)),
                10, 10, 10, 9, 9, 8, 8);
    }

    /** An amount of payer 0, then p so long after it. */
    private static int profileAfter(String limits, int amount, int gap) {
        OddPayments x = new OddPayments();
        Due.read(x, limits);
        x.pay(1, 0, 0, 1, amount, 0);
        x.pay(2, gap, 0, 1, 1, 0);
        return x.profile(2, 0);
    }

    private void profileFades() {
        e.of(12, "FADES: for each whole DECAY of time it is less by a fourth of it (cut)");
        int[] gaps = {0, 9, 10, 19, 20, 29, 30, 40, 50, 60, 1000};
        int[] left = {10, 10, 8, 8, 6, 6, 5, 4, 3, 3, 3};
        for (int i = 0; i < gaps.length; i++) {
            e.is("10, a decay of 10, after " + gaps[i], profileAfter("decay 10;", 40, gaps[i]), left[i]);
        }
        e.of(12, "DECAY 1 to 100000 (50)");
        e.row("50, without one told", Edges.r(profileAfter("", 40, 49), profileAfter("", 40, 50), profileAfter("", 40, 99), profileAfter("", 40, 100)), 10, 8, 8, 6);
        e.row("the least", Edges.r(profileAfter("decay 1;", 40, 0), profileAfter("decay 1;", 40, 1), profileAfter("decay 1;", 40, 2)), 10, 8, 6);
        e.row("the greatest", Edges.r(profileAfter("decay 100000;", 40, 99999), profileAfter("decay 100000;", 40, 100000)), 10, 8);
        e.row("small ones fade no more", Edges.r(profileAfter("decay 1;", 12, 5), profileAfter("decay 1;", 16, 1), profileAfter("decay 1;", 4, 99)), 3, 3, 1);
    }

    private static int profileOfThree(int second, int third) {
        OddPayments x = new OddPayments();
        Due.read(x, "decay 10;");
        x.pay(1, 100, 0, 1, 40, 0);
        x.pay(2, second, 0, 1, 40, 0);
        x.pay(3, third, 0, 1, 40, 0);
        return x.profile(3, 0);
    }

    private void profileFadesPieceByPiece() {
        e.of(12, "it FADES for the time since the one before (the first: not)");
        e.is("the first at a late time", profileOf(40), 10);
        e.row("10, faded or not, then 17 or 16", Edges.r(profileOfThree(109, 109), profileOfThree(110, 110), profileOfThree(120, 120)), 17, 16, 6 + 34 / 4);
        e.of(12, "at last it FADES for the time till p");
        e.row("17, faded or not", Edges.r(profileOfThree(109, 118), profileOfThree(109, 119)), 17, 13);
        e.row("16, faded or not", Edges.r(profileOfThree(110, 119), profileOfThree(110, 120)), 16, 12);
    }

    private void profileFadesToTheEnd() {
        e.of(12, "one after the other, at most 40 times");
        int[] gaps = {0, 1, 2, 36, 37, 38, 39, 40, 41, 42, 100, 99000};
        int[] left = {99997, 74998, 56249, 5, 4, 3, 3, 3, 3, 3, 3, 3};
        for (int i = 0; i < gaps.length; i++) {
            OddPayments x = new OddPayments();
            Due.read(x, "decay 1;");
            for (int k = 0; k < 38; k++) {
                x.pay(k, 1000, 0, 1, 100000, 0);
            }
            x.pay(999, 1000 + gaps[i], 0, 1, 1, 0);
            e.is("99997, after " + gaps[i], x.profile(999, 0), left[i]);
        }
    }

    private void profileInOrder() {
        e.of(12, "for each one AHEAD with its PAYER, in ORDER");
        OddPayments x = new OddPayments();
        x.pay(5, 10, 0, 1, 400, 0);
        x.pay(3, 10, 0, 1, 40, 0);
        x.pay(9, 10, 0, 1, 4, 0);
        e.is("3, then 5: 10, 107", x.profile(9, 0), 107);
        x.pay(1, 10, 1, 0, 100000, 0);
        x.pay(2, 10, 2, 1, 100000, 0);
        e.is("others' are none", x.profile(9, 0), 107);
        x.pay(10, 10, 0, 1, 100000, 0);
        e.is("those behind are none", x.profile(9, 0), 107);
        e.is("p's own amount is none", x.profile(3, 0), 0);
    }

    private void profileAsKnown() {
        e.of(12, "PROFILE of a PAYMENT AS KNOWN 0, 1");
        OddPayments x = new OddPayments();
        Due.read(x, "decay 10;");
        x.pay(7, 100, 0, 1, 40, 0);
        x.pay(8, 120, 0, 1, 40, 0);
        x.pay(6, 110, 0, 2, 80, 0);
        e.row("one that came late, ahead", Edges.r(x.profile(8, 0), x.profile(8, 1)), 20, 6);
        e.row("the late one itself", Edges.r(x.profile(6, 0), x.profile(6, 1)), 8, 8);
        e.row("the first", Edges.r(x.profile(7, 0), x.profile(7, 1)), 0, 0);
        e.of(12, "FADES: for each whole DECAY of time");
        Due.read(x, "decay 20;");
        e.row("another text", Edges.r(x.profile(8, 0), x.profile(8, 1)), 27, 8);
    }

    private void profileRefused() {
        e.of(12, "BAD");
        OddPayments x = new OddPayments();
        x.pay(0, 5, 0, 1, 7, 2);
        x.pay(999, 5, 0, 1, 7, 2);
        e.all("known", Due.BAD, x.profile(0, -1), x.profile(0, 2), x.profile(0, Due.LEAST), x.profile(0, Due.MOST));
        e.all("tag", Due.BAD, x.profile(-1, 0), x.profile(1, 0), x.profile(998, 1), x.profile(1000, 0), x.profile(Due.LEAST, 0), x.profile(Due.MOST, 0));
        e.row("there are", Edges.r(x.profile(0, 0), x.profile(999, 1)), 0, 1);
    }
}
