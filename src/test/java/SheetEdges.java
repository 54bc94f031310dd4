/** Edges of the promises 1 to 5. */
final class SheetEdges {
    private final Edges e;

    SheetEdges(Edges e) {
        this.e = e;
    }

    void run() {
        nothingAtFirst();
        objectsShareNothing();
        sizesAndLanes();
        itemsAreZeroAtFirst();
        inPlaceOfWhatIsThere();
        sheetRefused();
        bytes();
        shorts();
        ints();
        setIsKept();
        setRefused();
        copyOfSome();
        copyOfNone();
        copyWithinASheet();
        copyToTheEnds();
        copyOfThoseBelowZero();
        copyRefusedFirst();
        copyBeyondAnEnd();
        drop();
        dropRefused();
    }

    private void nothingAtFirst() {
        e.of(1, "No SHEETS, PAYMENTS, RULES");
        OddPayments x = new OddPayments();
        for (int what = 0; what < 8; what++) {
            e.is("count(" + what + ")", x.count(what), 0);
        }
        for (int tag = 0; tag < 1000; tag += 37) {
            e.is("told(" + tag + ", 0)", x.told(tag, 0), Due.BAD);
        }
        e.all("no payment", Due.NONE, x.order(0), x.queue(0), x.trace(0));
        e.all("no act", 0, x.acts(0), x.acts(1), x.acts(2), x.acts(3));
        e.is("no rule: of sets the empty one alone", x.costs(1, 0), Due.BAD);
        e.is("the empty set", x.costs(0, 0), 0);
        e.of(1, "SHEETS 0 .. 7 are missing (at first)");
        for (int sheet = 0; sheet < 8; sheet++) {
            e.is("set(" + sheet + ", 0, 0)", x.set(sheet, 0, 0), Due.NULL);
        }
        e.of(1, "MARKED people (0 to 19): none at first");
        for (int who = 0; who < 20; who++) {
            e.is("mark(" + who + ", 0)", x.mark(who, 0), 0);
        }
        e.of(1, "at first 50), of a LOOK (5)");
        e.row("costs", Edges.r(x.cost(0, 1), x.cost(1, 1)), 50, 5);
        e.of(1, "(100 without one)");
        e.row("limits", Edges.limits(x), 100, 50, 10, 20);
    }

    private void objectsShareNothing() {
        e.of(1, "No SHEETS, PAYMENTS, RULES");
        OddPayments other = new OddPayments();
        other.sheet(0, 2, 6);
        other.pay(0, 0, 0, 1, 1, 0);
        other.verdict(0, 1);
        other.mark(0, 1);
        other.cost(0, 9);
        other.ask(0, 0);
        Due.read(other, "window 3;decay 4;look 0;block 8;rule 1 if sort=0;");
        Due.read(other, "look");
        Due.feed(other, "look 3;");
        OddPayments x = new OddPayments();
        e.row("counts beside another object's", Edges.r(x.count(0), x.count(1), x.count(2), x.count(3), x.count(4), x.count(5), x.count(6), x.count(7)),
                0, 0, 0, 0, 0, 0, 0, 0);
        e.row("the rest", Edges.r(x.told(0, 0), x.trace(0), x.fault(), x.status(), x.cost(0, 50)), Due.BAD, Due.NONE, 0, 0, 50);
        e.row("limits", Edges.limits(x), 100, 50, 10, 20);
    }

    private void sizesAndLanes() {
        e.of(2, "A SHEET of a LANE with n ITEMS");
        OddPayments x = new OddPayments();
        for (int sheet = 0; sheet < 8; sheet++) {
            for (int lane = 0; lane < 3; lane++) {
                e.is("none", x.sheet(sheet, lane, 0), 0);
                e.is("its first place is none", x.set(sheet, 0, 1), Due.PLACE);
                e.is("one", x.sheet(sheet, lane, 1), 1);
                e.row("one place", Edges.r(x.set(sheet, 0, 1), x.set(sheet, 1, 1)), 1, Due.PLACE);
                e.is("120", x.sheet(sheet, lane, 120), 120);
                e.row("120 places", Edges.r(x.set(sheet, 119, 1), x.set(sheet, 120, 1)), 1, Due.PLACE);
                e.is("count(0)", x.count(0), sheet + 1);
            }
        }
        e.of(2, "have a LANE (0 bytes, 1 shorts, 2 ints)");
        for (int lane = 0; lane < 3; lane++) {
            x.sheet(lane, lane, 1);
        }
        e.row("70000", Edges.r(x.set(0, 0, 70000), x.set(1, 0, 70000), x.set(2, 0, 70000)), 112, 4464, 70000);
    }

    /** The payment of tag 0, time 0, payer 0, sort 0 rests on four items that nobody has set. */
    private void zeroPayment(String how, OddPayments x, int sheet, int at) {
        x.set(sheet, at + 3, 1);
        x.set(sheet, at + 4, 1);
        e.is(how, x.batch(sheet, at, 1), 1);
        e.row(how, Edges.told(x, 0), 0, 0, 0, 1, 1, 0, Due.NONE);
    }

    private static void fill(OddPayments x, int sheet, int at) {
        Edges.lay(x, sheet, at, 9, 9, 9, 8, 9, 3);
    }

    private void itemsAreZeroAtFirst() {
        e.of(2, "0 to 120 ITEMS, 0 at first");
        for (int lane = 0; lane < 3; lane++) {
            for (int at : new int[] {0, 1, 57, 113, 114}) {
                OddPayments x = new OddPayments();
                x.sheet(3, lane, 120);
                zeroPayment("of a new sheet", x, 3, at);
                x = new OddPayments();
                x.sheet(3, lane, 120);
                fill(x, 3, at);
                x.sheet(3, lane, 120);
                zeroPayment("of one laid anew", x, 3, at);
                x = new OddPayments();
                x.sheet(3, 2, 120);
                fill(x, 3, at);
                x.sheet(3, lane, 0);
                x.sheet(3, lane, 120);
                zeroPayment("of one that was small in between", x, 3, at);
                x = new OddPayments();
                x.sheet(3, 2, 120);
                fill(x, 3, at);
                x.drop(3);
                x.sheet(3, lane, 120);
                zeroPayment("of one that was dropped in between", x, 3, at);
            }
        }
    }

    private void inPlaceOfWhatIsThere() {
        e.of(2, "in place of what is there: n");
        OddPayments x = new OddPayments();
        x.sheet(5, 2, 120);
        e.is("a smaller one", x.sheet(5, 0, 3), 3);
        e.row("its places, its lane", Edges.r(x.set(5, 2, 300), x.set(5, 3, 1), x.set(5, 119, 1)), 44, Due.PLACE, Due.PLACE);
        e.is("a greater one", x.sheet(5, 1, 4), 4);
        e.row("its places, its lane", Edges.r(x.set(5, 3, 300), x.set(5, 3, 40000), x.set(5, 4, 1)), 300, 40000 - 65536, Due.PLACE);
        e.is("count(0)", x.count(0), 1);
        e.is("drop(5)", x.drop(5), 4);
    }

    private void sheetRefused() {
        OddPayments x = new OddPayments();
        e.of(2, "BAD: SHEET, LANE, n above 120");
        e.all("sheet", Due.BAD, x.sheet(-1, 0, 1), x.sheet(8, 0, 1), x.sheet(Due.LEAST, 0, 1), x.sheet(Due.MOST, 0, 1));
        e.all("lane", Due.BAD, x.sheet(0, -1, 1), x.sheet(0, 3, 1), x.sheet(0, Due.LEAST, 1), x.sheet(0, Due.MOST, 1));
        e.all("n", Due.BAD, x.sheet(0, 0, 121), x.sheet(0, 2, 121), x.sheet(0, 0, Due.MOST));
        e.is("none came to be", x.count(0), 0);
        e.of(2, "SIZE");
        e.all("n below 0", Due.SIZE, x.sheet(0, 0, -1), x.sheet(7, 2, -1), x.sheet(0, 0, -121), x.sheet(0, 0, Due.LEAST));
        e.is("status()", x.status(), 4);
        e.is("none came to be", x.count(0), 0);
        e.of(2, "Refusals are answers, the first of these that fits: BAD");
        e.all("BAD ahead of SIZE", Due.BAD, x.sheet(-1, 0, -1), x.sheet(8, 0, -1), x.sheet(0, -1, -1), x.sheet(0, 3, -1));
        e.of(2, "4 SIZE (fewer than none)");
        e.is("none is not fewer than none", x.sheet(0, 0, 0), 0);
        e.is("the number", x.sheet(0, 0, -1), -1000014);
    }

    private void bytes() {
        e.of(3, "its lowest bits, as many as the LANE has: what it is then");
        OddPayments x = new OddPayments();
        x.sheet(0, 0, 1);
        int[] put = {0, 1, 127, 128, 129, 255, 256, 257, 383, 384, 511, 512, -1, -127, -128, -129, -255, -256, -257, Due.MOST, Due.LEAST, 0x12345678};
        int[] kept = {0, 1, 127, -128, -127, -1, 0, 1, 127, -128, -1, 0, -1, -127, -128, 127, 1, 0, -1, -1, 0, 0x78};
        for (int i = 0; i < put.length; i++) {
            e.is("a byte, " + put[i], x.set(0, 0, put[i]), kept[i]);
        }
    }

    private void shorts() {
        e.of(3, "its lowest bits, as many as the LANE has: what it is then");
        OddPayments x = new OddPayments();
        x.sheet(0, 1, 1);
        int[] put = {0, 127, 128, 255, 256, 32767, 32768, 32769, 65535, 65536, 65537, 98303, 98304, -1, -32768, -32769, -65536, -65537, Due.MOST, Due.LEAST, 0x12345678};
        int[] kept = {0, 127, 128, 255, 256, 32767, -32768, -32767, -1, 0, 1, 32767, -32768, -1, -32768, 32767, 0, -1, -1, 0, 0x5678};
        for (int i = 0; i < put.length; i++) {
            e.is("a short, " + put[i], x.set(0, 0, put[i]), kept[i]);
        }
    }

    private void ints() {
        e.of(3, "its lowest bits, as many as the LANE has: what it is then");
        OddPayments x = new OddPayments();
        x.sheet(0, 2, 1);
        for (int v : new int[] {0, 1, -1, 128, 256, 32768, 65535, 65536, -65537, Due.MOST, Due.LEAST, 0x12345678}) {
            e.is("an int, " + v, x.set(0, 0, v), v);
        }
    }

    private void setIsKept() {
        e.of(3, "ITEM i becomes v");
        OddPayments x = new OddPayments();
        x.sheet(0, 0, 8);
        Edges.lay(x, 0, 0, 77, 256 + 5, 512 + 10, 3, 4, -256 + 6, 3 - 768, 77);
        e.is("of bytes, their lowest bits", x.batch(0, 1, 1), 1);
        e.row("of bytes", Edges.told(x, 5), 0, 10, 3, 4, 6, 3, Due.NONE);
        x.sheet(0, 1, 8);
        Edges.lay(x, 0, 0, 77, 65536 + 300, 131072 + 10000, 3, 4, 6 - 65536, 2 + 65536, 77);
        e.is("of shorts, their lowest bits", x.batch(0, 1, 1), 1);
        e.row("of shorts", Edges.told(x, 300), 1, 10000, 3, 4, 6, 2, Due.NONE);
        x.sheet(0, 2, 8);
        Edges.lay(x, 0, 0, 77, 900, 100000, 3, 4, 100000, 2, 77);
        x.set(0, 1, 901);
        e.is("of ints, the last one set", x.batch(0, 1, 1), 1);
        e.row("of ints", Edges.told(x, 901), 2, 100000, 3, 4, 100000, 2, Due.NONE);
        x.sheet(1, 2, 8);
        e.is("of that sheet alone", x.batch(1, 1, 1), 0);
    }

    private void setRefused() {
        OddPayments x = new OddPayments();
        x.sheet(0, 0, 4);
        x.sheet(1, 1, 0);
        x.sheet(2, 2, 120);
        e.of(3, "BAD: SHEET");
        e.all("sheet", Due.BAD, x.set(-1, 0, 0), x.set(8, 0, 0), x.set(Due.LEAST, 0, 0), x.set(Due.MOST, 0, 0));
        e.all("BAD ahead of PLACE", Due.BAD, x.set(-1, -1, 0), x.set(8, 999, 0));
        e.of(3, "NULL");
        e.all("missing", Due.NULL, x.set(3, 0, 0), x.set(7, 0, 0));
        e.all("NULL ahead of PLACE", Due.NULL, x.set(3, -1, 0), x.set(3, 120, 0), x.set(3, Due.LEAST, 0));
        e.of(3, "1 NULL (a SHEET that is missing)");
        e.is("the number", x.set(3, 0, 0), -1000011);
        e.is("status()", x.status(), 1);
        e.of(3, "PLACE");
        e.all("below", Due.PLACE, x.set(0, -1, 0), x.set(0, Due.LEAST, 0), x.set(2, -1, 0));
        e.all("beyond", Due.PLACE, x.set(0, 4, 0), x.set(0, 119, 0), x.set(0, Due.MOST, 0), x.set(2, 120, 0), x.set(1, 0, 0));
        e.all("the first and last places", 1, x.set(0, 0, 1), x.set(0, 3, 1), x.set(2, 0, 1), x.set(2, 119, 1));
        e.of(3, "2 PLACE (no such place of a SHEET)");
        e.is("the number", x.set(0, 4, 0), -1000012);
        e.is("status()", x.status(), 2);
    }

    /** A sheet's items are read as a payment: tag, time, payer, payee, amount, sort. */
    private void reads(String how, OddPayments x, int sheet, int at, int... one) {
        int number = x.count(1);
        e.is(how + ": batch", x.batch(sheet, at, 1), 1);
        e.row(how, Edges.told(x, one[0]), number, one[1], one[2], one[3], one[4], one[5], Due.NONE);
    }

    private void copyOfSome() {
        e.of(4, "n ITEMS of a from i on come to b from j on");
        for (int lane = 0; lane < 3; lane++) {
            OddPayments x = new OddPayments();
            x.sheet(0, lane, 10);
            x.sheet(1, lane, 12);
            Edges.lay(x, 0, 0, 61, 62, 20, 21, 2, 3, 24, 1, 68, 69);
            Edges.lay(x, 1, 0, 30, 31, 4, 5, 34, 2, 36, 37, 8, 9, 40, 3);
            e.is("two", x.copy(0, 2, 1, 6, 2), 2);
            reads("what is ahead of them stays", x, 1, 0, 30, 31, 4, 5, 34, 2);
            reads("the two, and what is behind them", x, 1, 6, 20, 21, 8, 9, 40, 3);
            x.set(0, 2, 22);
            reads("the sheet that they are of", x, 0, 2, 22, 21, 2, 3, 24, 1);
            x.set(1, 6, 23);
            reads("each has its own", x, 1, 6, 23, 21, 8, 9, 40, 3);
            e.is("all six", x.copy(0, 2, 1, 1, 6), 6);
            x.set(1, 1, 25);
            reads("all six", x, 1, 1, 25, 21, 2, 3, 24, 1);
            x.set(1, 7, 26);
            e.row("the one behind them stays", Edges.r(x.set(1, 6, 26), x.batch(1, 6, 1)), 26, 1);
            e.row("the one behind them", Edges.told(x, 26), 5, 26, 8, 9, 40, 3, Due.NONE);
        }
    }

    private void copyOfNone() {
        e.of(4, "n ITEMS of a from i on come to b from j on, as they were ahead: n");
        OddPayments x = new OddPayments();
        x.sheet(0, 2, 6);
        x.sheet(1, 2, 0);
        x.sheet(2, 2, 6);
        Edges.lay(x, 2, 0, 9, 9, 9, 8, 9, 3);
        e.all("none", 0, x.copy(0, 0, 2, 0, 0), x.copy(0, 6, 2, 6, 0), x.copy(1, 0, 1, 0, 0), x.copy(1, 0, 2, 3, 0), x.copy(0, 6, 1, 0, 0), x.copy(2, 2, 2, 2, 0));
        reads("nothing came", x, 2, 0, 9, 9, 9, 8, 9, 3);
        e.all("one of none", Due.PLACE, x.copy(1, 0, 0, 0, 1), x.copy(0, 0, 1, 0, 1));
    }

    private void copyWithinASheet() {
        e.of(4, "as they were ahead");
        for (int lane = 0; lane < 3; lane++) {
            OddPayments x = new OddPayments();
            x.sheet(6, lane, 9);
            Edges.lay(x, 6, 0, 5, 11, 2, 3, 14, 1, 99, 99, 99);
            e.is("one place on", x.copy(6, 0, 6, 1, 6), 6);
            reads("one place on", x, 6, 1, 5, 11, 2, 3, 14, 1);
            e.is("one place back", x.copy(6, 1, 6, 0, 6), 6);
            x.set(6, 0, 6);
            reads("one place back", x, 6, 0, 6, 11, 2, 3, 14, 1);
            e.is("three places on", x.copy(6, 0, 6, 3, 6), 6);
            x.set(6, 3, 7);
            reads("three places on", x, 6, 3, 7, 11, 2, 3, 14, 1);
            e.is("to the same places", x.copy(6, 3, 6, 3, 6), 6);
            x.set(6, 3, 8);
            reads("to the same places", x, 6, 3, 8, 11, 2, 3, 14, 1);
        }
    }

    private void copyToTheEnds() {
        e.of(4, "n ITEMS of a from i on come to b from j on");
        OddPayments x = new OddPayments();
        x.sheet(0, 2, 120);
        x.sheet(7, 2, 120);
        Edges.lay(x, 0, 0, 5, 11, 2, 3, 14, 1);
        Edges.lay(x, 0, 114, 6, 12, 4, 5, 15, 2);
        e.is("all of it", x.copy(0, 0, 7, 0, 120), 120);
        reads("its first", x, 7, 0, 5, 11, 2, 3, 14, 1);
        reads("its last", x, 7, 114, 6, 12, 4, 5, 15, 2);
        e.is("all but one", x.copy(0, 0, 0, 1, 119), 119);
        x.set(0, 1, 7);
        reads("one place on", x, 0, 1, 7, 11, 2, 3, 14, 1);
    }

    private void copyOfThoseBelowZero() {
        e.of(4, "as they were ahead");
        for (int lane = 0; lane < 3; lane++) {
            OddPayments x = new OddPayments();
            x.sheet(0, lane, 6);
            x.sheet(1, lane, 6);
            Edges.lay(x, 0, 0, -1, 11, 2, 3, 14, 1);
            x.copy(0, 0, 1, 0, 6);
            e.is("a tag of -1 stays one", x.batch(1, 0, 1), 0);
            x.set(1, 0, 7);
            reads("the others", x, 1, 0, 7, 11, 2, 3, 14, 1);
        }
    }

    private void copyRefusedFirst() {
        OddPayments x = new OddPayments();
        x.sheet(0, 0, 3);
        x.sheet(1, 1, 3);
        x.sheet(2, 2, 3);
        e.of(4, "BAD: SHEETS");
        e.all("a", Due.BAD, x.copy(-1, 0, 0, 0, 0), x.copy(8, 0, 0, 0, 0), x.copy(Due.LEAST, 0, 0, 0, 0), x.copy(Due.MOST, 0, 0, 0, 0));
        e.all("b", Due.BAD, x.copy(0, 0, -1, 0, 0), x.copy(0, 0, 8, 0, 0), x.copy(0, 0, Due.LEAST, 0, 0), x.copy(0, 0, Due.MOST, 0, 0));
        e.all("BAD ahead of NULL and PLACE", Due.BAD, x.copy(5, 0, 8, 0, 0), x.copy(-1, 0, 5, 0, 0), x.copy(0, -1, 8, -1, -1));
        e.of(4, "NULL");
        e.all("a, b, both", Due.NULL, x.copy(5, 0, 0, 0, 0), x.copy(0, 0, 5, 0, 0), x.copy(5, 0, 6, 0, 0), x.copy(5, 0, 5, 0, 0));
        e.all("NULL ahead of PLACE", Due.NULL, x.copy(5, -1, 0, 0, 0), x.copy(0, 0, 5, 0, 99), x.copy(0, -1, 5, 0, 0));
        e.of(4, "STORE");
        e.all("lanes", Due.STORE, x.copy(0, 0, 1, 0, 1), x.copy(1, 0, 0, 0, 1), x.copy(1, 0, 2, 0, 1), x.copy(2, 0, 1, 0, 1), x.copy(0, 0, 2, 0, 1), x.copy(2, 0, 0, 0, 1));
        e.is("none of another lane", x.copy(0, 0, 1, 0, 0), Due.STORE);
        e.all("STORE ahead of PLACE", Due.STORE, x.copy(0, -1, 1, 0, 1), x.copy(0, 0, 1, -1, 1), x.copy(0, 0, 1, 0, -1), x.copy(0, 0, 1, 0, 4), x.copy(0, 9, 2, 9, 9));
        e.of(4, "of several the first in time: -1000010 less 1 NULL");
        e.is("NULL's number", x.copy(5, 0, 1, 9, 9), -1000011);
        e.of(4, "5 STORE (SHEETS of two LANES)");
        e.is("STORE's number", x.copy(0, 9, 1, 9, 9), -1000015);
        e.is("status()", x.status(), 5);
    }

    private void copyBeyondAnEnd() {
        e.of(4, "PLACE (i, j, n below 0, or beyond an end)");
        OddPayments x = new OddPayments();
        x.sheet(0, 1, 5);
        x.sheet(1, 1, 8);
        e.all("i below 0", Due.PLACE, x.copy(0, -1, 1, 0, 1), x.copy(0, -1, 1, 0, 0), x.copy(0, -1, 1, 0, 2), x.copy(0, Due.LEAST, 1, 0, 1));
        e.all("j below 0", Due.PLACE, x.copy(0, 0, 1, -1, 1), x.copy(0, 0, 1, -1, 0), x.copy(0, 0, 1, -1, 2), x.copy(0, 0, 1, Due.LEAST, 1));
        e.all("n below 0", Due.PLACE, x.copy(0, 0, 1, 0, -1), x.copy(0, 3, 1, 3, -1), x.copy(0, 0, 1, 0, Due.LEAST), x.copy(0, 5, 1, 8, Due.LEAST));
        e.all("beyond the end of a", Due.PLACE, x.copy(0, 0, 1, 0, 6), x.copy(0, 1, 1, 0, 5), x.copy(0, 5, 1, 0, 1), x.copy(0, 6, 1, 0, 0), x.copy(0, 6, 1, 0, -1));
        e.all("beyond the end of b", Due.PLACE, x.copy(0, 0, 1, 4, 5), x.copy(0, 0, 1, 8, 1), x.copy(0, 0, 1, 9, 0), x.copy(0, 0, 1, 9, -1));
        e.all("numbers whose sum wraps around", Due.PLACE, x.copy(0, 1, 1, 0, Due.MOST), x.copy(0, 0, 1, 1, Due.MOST), x.copy(0, Due.MOST, 1, 0, 1),
                x.copy(0, 0, 1, Due.MOST, 1), x.copy(0, Due.MOST, 1, Due.MOST, Due.MOST), x.copy(0, Due.MOST, 1, 0, 0));
        e.all("to an end", 5, x.copy(0, 0, 1, 3, 5), x.copy(0, 0, 1, 0, 5));
        e.all("the last one", 1, x.copy(0, 4, 1, 7, 1), x.copy(1, 7, 0, 4, 1));
    }

    private void drop() {
        e.of(5, "A SHEET is missing from now on: how many ITEMS it had");
        OddPayments x = new OddPayments();
        x.sheet(0, 0, 0);
        x.sheet(1, 1, 1);
        x.sheet(7, 2, 120);
        e.row("drop", Edges.r(x.drop(0), x.count(0), x.drop(7), x.count(0)), 0, 2, 120, 1);
        e.all("missing", Due.NULL, x.drop(0), x.drop(7), x.set(7, 0, 1), x.copy(7, 0, 7, 0, 0), x.copy(7, 0, 1, 0, 0), x.copy(1, 0, 7, 0, 0), x.batch(7, 0, 1));
        e.is("another stays", x.set(1, 0, 5), 5);
        e.row("laid again", Edges.r(x.sheet(7, 1, 2), x.drop(7), x.drop(1), x.count(0)), 2, 2, 1, 0);
    }

    private void dropRefused() {
        OddPayments x = new OddPayments();
        x.sheet(0, 0, 3);
        x.sheet(7, 0, 4);
        e.of(5, "BAD");
        e.all("sheet", Due.BAD, x.drop(-1), x.drop(8), x.drop(Due.LEAST), x.drop(Due.MOST));
        e.is("none is gone", x.count(0), 2);
        e.of(5, "NULL");
        for (int sheet = 1; sheet < 7; sheet++) {
            e.is("missing", x.drop(sheet), Due.NULL);
        }
        e.is("status()", x.status(), 1);
    }
}
