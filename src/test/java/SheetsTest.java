/** Promises 1 to 5, and 34 as far as sheets go. */
public final class SheetsTest {
    private static final Due due = new Due();

    public static void main(String[] args) {
        newObject();
        sheet();
        set();
        copy();
        drop();
        status();
        due.end();
    }

    private static void newObject() {
        due.promise(1, "a new object");
        OddPayments x = new OddPayments();
        for (int what = 0; what <= 7; what++) {
            due.is("count(" + what + ")", x.count(what), 0);
        }
        for (int s = 0; s < 8; s++) {
            due.is("drop(" + s + ")", x.drop(s), Due.NULL);
        }
        x = new OddPayments();
        due.is("status()", x.status(), 0);
        due.is("fault()", x.fault(), 0);
        due.is("order(0)", x.order(0), Due.NONE);
        due.is("queue(0)", x.queue(0), Due.NONE);
        due.is("trace(0)", x.trace(0), Due.NONE);
        due.row("limits", new long[] {x.rule(0), x.rule(1), x.rule(2), x.rule(3)}, 100, 50, 10, 20);
        OddPayments y = new OddPayments();
        y.sheet(0, 0, 1);
        y.pay(1, 1, 1, 2, 1, 1);
        due.is("another object's sheets", x.count(0), 0);
        due.is("another object's payments", x.count(1), 0);
    }

    private static void sheet() {
        due.promise(2, "sheet");
        OddPayments x = new OddPayments();
        due.is("sheet(0, 0, 0)", x.sheet(0, 0, 0), 0);
        due.is("sheet(7, 2, 120)", x.sheet(7, 2, 120), 120);
        due.is("count(0)", x.count(0), 2);
        due.all("bad sheet", Due.BAD, x.sheet(-1, 0, 1), x.sheet(8, 0, 1), x.sheet(Due.LEAST, 0, 1), x.sheet(Due.MOST, 0, 1));
        due.all("bad lane", Due.BAD, x.sheet(1, -1, 1), x.sheet(1, 3, 1), x.sheet(1, Due.MOST, 1));
        due.all("too long", Due.BAD, x.sheet(1, 0, 121), x.sheet(1, 0, Due.MOST));
        due.all("fewer than none", Due.SIZE, x.sheet(1, 0, -1), x.sheet(1, 0, Due.LEAST));
        due.all("BAD ahead of SIZE", Due.BAD, x.sheet(8, 0, -1), x.sheet(1, 3, -1));
        due.is("count(0)", x.count(0), 2);
        x.sheet(3, 1, 2);
        x.set(3, 1, 77);
        due.is("refused: stays", x.sheet(3, 2, -5), Due.SIZE);
        due.is("the old lane", x.set(3, 0, 65536 + 5), 5);
        x.sheet(4, 1, 2);
        x.copy(3, 0, 4, 0, 2);
        due.is("anew, in its place", x.sheet(3, 2, 3), 3);
        due.is("count(0)", x.count(0), 4);
        due.is("drop(3)", x.drop(3), 3);
        x.sheet(0, 2, 6);
        x.set(0, 0, 5);
        x.set(0, 1, 5);
        x.set(0, 3, 1);
        x.set(0, 4, 1);
        x.sheet(0, 2, 6);
        due.is("laid anew its items are 0, which is no payment", x.batch(0, 0, 1), 0);
    }

    private static void set() {
        due.promise(3, "set");
        OddPayments x = new OddPayments();
        x.sheet(0, 0, 2);
        x.sheet(1, 1, 2);
        x.sheet(2, 2, 2);
        x.sheet(3, 2, 0);
        due.row("bytes", new long[] {x.set(0, 0, 127), x.set(0, 1, 128), x.set(0, 0, 255), x.set(0, 0, 256), x.set(0, 0, -129)},
                127, -128, -1, 0, 127);
        due.row("shorts", new long[] {x.set(1, 0, 32767), x.set(1, 1, 32768), x.set(1, 0, 65535), x.set(1, 0, 65536), x.set(1, 0, -32769)},
                32767, -32768, -1, 0, 32767);
        due.row("ints", new long[] {x.set(2, 0, Due.MOST), x.set(2, 1, Due.LEAST), x.set(2, 0, -1)}, Due.MOST, Due.LEAST, -1);
        due.all("bad", Due.BAD, x.set(-1, 0, 0), x.set(8, 0, 0), x.set(8, -1, 0));
        due.all("missing", Due.NULL, x.set(4, 0, 0), x.set(4, -1, 0), x.set(7, 120, 0));
        due.all("no place", Due.PLACE, x.set(0, -1, 0), x.set(0, 2, 0), x.set(3, 0, 0), x.set(0, Due.LEAST, 0), x.set(0, Due.MOST, 0));
    }

    /** Payments by batch tell what a sheet holds. */
    private static void copy() {
        due.promise(4, "copy");
        OddPayments x = new OddPayments();
        x.sheet(0, 2, 12);
        x.sheet(1, 2, 20);
        int[] one = {7, 50, 3, 4, 90, 2};
        for (int i = 0; i < 6; i++) {
            x.set(0, i, one[i]);
        }
        due.is("copy(0, 0, 1, 14, 6)", x.copy(0, 0, 1, 14, 6), 6);
        due.is("batch(1, 14, 1)", x.batch(1, 14, 1), 1);
        due.row("told", new long[] {x.told(7, 1), x.told(7, 2), x.told(7, 3), x.told(7, 4), x.told(7, 5)}, 50, 3, 4, 90, 2);
        due.is("within itself, forward", x.copy(0, 0, 0, 1, 6), 6);
        x.set(0, 1, 8);
        due.is("as they were ahead", x.batch(0, 1, 1), 1);
        due.row("told", new long[] {x.told(8, 1), x.told(8, 2), x.told(8, 3), x.told(8, 4), x.told(8, 5)}, 50, 3, 4, 90, 2);
        due.is("within itself, back", x.copy(0, 1, 0, 0, 6), 6);
        x.set(0, 0, 9);
        due.is("as they were ahead", x.batch(0, 0, 1), 1);
        due.row("told", new long[] {x.told(9, 1), x.told(9, 2), x.told(9, 3), x.told(9, 4), x.told(9, 5)}, 50, 3, 4, 90, 2);
        due.all("none", 0, x.copy(0, 0, 1, 0, 0), x.copy(0, 12, 1, 20, 0));
        due.all("bad", Due.BAD, x.copy(-1, 0, 0, 0, 0), x.copy(0, 0, 8, 0, 0), x.copy(8, 0, 2, 0, -1));
        due.all("missing", Due.NULL, x.copy(0, 0, 2, 0, 1), x.copy(2, 0, 0, 0, 1), x.copy(2, -1, 2, -1, -1));
        due.all("no place", Due.PLACE, x.copy(0, -1, 1, 0, 1), x.copy(0, 0, 1, -1, 1), x.copy(0, 0, 1, 0, -1), x.copy(0, 0, 1, 0, 13),
                x.copy(0, 7, 1, 0, 6), x.copy(0, 0, 1, 15, 6), x.copy(0, 13, 1, 0, 0), x.copy(0, 0, 1, 21, 0));
        due.all("no place, great numbers", Due.PLACE, x.copy(0, 1, 1, 1, Due.MOST), x.copy(0, Due.MOST, 1, 0, 1), x.copy(0, 0, 1, Due.MOST, Due.MOST),
                x.copy(0, Due.LEAST, 1, 0, 1), x.copy(0, 0, 1, 0, Due.LEAST));
        x.sheet(3, 1, 12);
        due.all("two lanes", Due.STORE, x.copy(0, 0, 3, 0, 1), x.copy(3, 0, 0, 0, 1), x.copy(0, -1, 3, 0, 500), x.copy(0, 0, 3, 0, -1));
    }

    private static void drop() {
        due.promise(5, "drop");
        OddPayments x = new OddPayments();
        x.sheet(0, 1, 9);
        x.sheet(5, 0, 0);
        due.is("drop(0)", x.drop(0), 9);
        due.is("drop(0) again", x.drop(0), Due.NULL);
        due.is("set(0, 0, 1)", x.set(0, 0, 1), Due.NULL);
        due.is("drop(5)", x.drop(5), 0);
        due.is("count(0)", x.count(0), 0);
        due.all("bad", Due.BAD, x.drop(-1), x.drop(8), x.drop(Due.MOST));
        due.is("laid again", x.sheet(0, 2, 4), 4);
        due.is("drop(0)", x.drop(0), 4);
    }

    private static void status() {
        due.promise(34, "status");
        OddPayments x = new OddPayments();
        due.is("at first", x.status(), 0);
        x.set(0, 0, 0);
        due.is("NULL", x.status(), 1);
        x.sheet(8, 0, 0);
        due.is("BAD leaves it", x.status(), 1);
        x.sheet(0, 0, -1);
        due.is("SIZE", x.status(), 4);
        x.pay(1, 1, 1, 2, 1, 1);
        x.count(9);
        x.told(1, 0);
        due.is("other calls leave it", x.status(), 4);
        x.sheet(0, 0, 3);
        due.is("none", x.status(), 0);
        x.set(0, 3, 0);
        due.is("PLACE", x.status(), 2);
        due.is("asked again", x.status(), 2);
        x.drop(1);
        due.is("NULL by drop", x.status(), 1);
        x.set(0, 2, 0);
        due.is("set clears", x.status(), 0);
        x.sheet(1, 1, 1);
        x.copy(0, 0, 1, 0, 1);
        due.is("STORE", x.status(), 5);
        x.copy(0, 0, 0, 1, 1);
        due.is("copy clears", x.status(), 0);
        x.batch(0, 0, 1);
        due.is("PLACE by batch", x.status(), 2);
        x.batch(0, 0, 0);
        due.is("BAD batch leaves it", x.status(), 2);
        x.drop(1);
        due.is("drop clears", x.status(), 0);
        x.as(1, 2);
        due.is("KIND", x.status(), 3);
        x.as(2, 0);
        due.is("BAD as leaves it", x.status(), 3);
        x.as(1, 0);
        due.is("as clears", x.status(), 0);
        x.as(1, 3);
        x.sheet(2, 2, 6);
        x.as(1, 3);
        x.batch(2, 0, 1);
        due.is("batch clears, though none came", x.status(), 0);
    }
}
