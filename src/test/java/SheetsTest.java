/** Promises 30 to 35: sheet, write, copy, lays, book, read. */
public final class SheetsTest {
    private static final Check check = new Check("SheetsTest");

    public static void main(String[] args) {
        sheet();
        write();
        emptySheet();
        numbersLikeFindings();
        copy();
        copyWhole();
        lays();
        laysAtTheBounds();
        book();
        read();
        readWithAnother();
        readToTheBounds();
        check.end();
    }

    private static void sheet() {
        TideLoans x = check.fresh();
        for (int bits : new int[] {8, 16, 64}) {
            check.due("sheet(3, " + bits + ", 40)", x.sheet(3, bits, 40), 40);
            x.write(3, 39, 5);
            check.due("a sheet anew", x.sheet(3, bits, 40), 40);
            check.due("its numbers are 0", x.write(3, 39, 7), 0);
            check.due("a short sheet", x.sheet(3, bits, 1), 1);
            check.due("a long one again", x.sheet(3, bits, 40), 40);
            check.due("its numbers are 0 too", x.write(3, 39, 7), 0);
        }
        check.due("an empty sheet", x.sheet(0, 8, 0), 0);
        check.due("it isn't missing", x.lays(0), 0);
        check.due("sheet(0, 0, 40)", x.sheet(0, 0, 40), 0);
        check.found(x, "it is missing", x.lays(0), Check.MISSING);
        check.found(x, "sheet(4, 8, 1)", x.sheet(4, 8, 1), Check.BEYOND);
        check.found(x, "sheet(-1, 8, -1)", x.sheet(-1, 8, -1), Check.BEYOND);
        check.found(x, "sheet(0, 32, -1)", x.sheet(0, 32, -1), Check.BEYOND);
        check.found(x, "sheet(0, -8, 1)", x.sheet(0, -8, 1), Check.BEYOND);
        check.found(x, "sheet(0, 8, -1)", x.sheet(0, 8, -1), Check.SIZE);
        check.found(x, "sheet(0, 0, -1)", x.sheet(0, 0, -1), Check.SIZE);
        check.found(x, "sheet(0, 8, 41)", x.sheet(0, 8, 41), Check.BEYOND);
        check.found(x, "sheet(0, 0, 41)", x.sheet(0, 0, 41), Check.BEYOND);
        check.found(x, "sheet(3, 0, 41)", x.sheet(3, 0, 41), Check.BEYOND);
        check.due("that one stays", x.write(3, 39, 0), 7);
    }

    private static void write() {
        TideLoans x = check.fresh();
        long[] values = {0, 127, 128, 255, 256, -1, -129, 32767, 32768, 65535, 65536, Long.MAX_VALUE, Long.MIN_VALUE};
        x.sheet(0, 8, 3);
        x.sheet(1, 16, 3);
        x.sheet(2, 64, 3);
        for (long v : values) {
            x.write(0, 2, v);
            x.write(1, 2, v);
            x.write(2, 2, v);
            check.due("8 bits of " + v, x.write(0, 2, 0), (byte) v);
            check.due("16 bits of " + v, x.write(1, 2, 0), (short) v);
            check.due("64 bits of " + v, x.write(2, 2, 0), v);
        }
        check.due("the others stay", x.write(2, 1, 0), 0);
        check.found(x, "write(4, 0, 0)", x.write(4, 0, 0), Check.BEYOND);
        check.found(x, "write(-1, 0, 0)", x.write(-1, 0, 0), Check.BEYOND);
        check.found(x, "write(3, 99, 0)", x.write(3, 99, 0), Check.MISSING);
        check.found(x, "write(0, 3, 0)", x.write(0, 3, 0), Check.BEYOND);
        check.found(x, "write(0, -1, 0)", x.write(0, -1, 0), Check.BEYOND);
        check.found(x, "write(0, 2^31-1, 0)", x.write(0, Integer.MAX_VALUE, 0), Check.BEYOND);
    }

    /** A sheet of no numbers is there all the same, and has none. */
    private static void emptySheet() {
        for (int bits : new int[] {8, 16, 64}) {
            TideLoans x = check.fresh();
            x.thing(0, 0);
            check.due("sheet(2, " + bits + ", 0)", x.sheet(2, bits, 0), 0);
            check.found(x, "write(2, 0, 1)", x.write(2, 0, 1), Check.BEYOND);
            check.due("copy(2, 0, 2, 0, 0)", x.copy(2, 0, 2, 0, 0), 0);
            check.found(x, "copy(2, 0, 2, 0, 1)", x.copy(2, 0, 2, 0, 1), Check.BEYOND);
            check.due("lays(2)", x.lays(2), 0);
            check.due("book(2, 3)", x.book(2, 3), 0);
            check.due("read(2, 3, 0)", x.read(2, 3, 0), 96);
            check.due("sheet(2, " + bits + ", 1)", x.sheet(2, bits, 1), 1);
            check.due("write(2, 0, 1)", x.write(2, 0, 1), 0);
            check.due("sheet(2, 0, 0)", x.sheet(2, 0, 0), 0);
            check.found(x, "write(2, 0, 1) to a missing one", x.write(2, 0, 1), Check.MISSING);
            check.due("sheet(2, " + bits + ", 1) again", x.sheet(2, bits, 1), 1);
            check.due("its number is 0", x.write(2, 0, 1), 0);
        }
    }

    /** A number that was written may be as low as a finding, and is none. */
    private static void numbersLikeFindings() {
        TideLoans x = check.fresh();
        x.sheet(0, 64, 1);
        for (long v = -1000000000L; v >= -1000000008L; v--) {
            x.write(0, 0, v);
            check.due("the number " + v, x.write(0, 0, 0), v);
        }
        check.due("no finding", x.status(-1), 0);
    }

    private static void number(TideLoans x, int s, int n) {
        x.sheet(s, 16, n);
        for (int i = 0; i < n; i++) {
            x.write(s, i, 100 + i);
        }
    }

    private static void dueRow(TideLoans x, int s, int... want) {
        for (int i = 0; i < want.length; i++) {
            long was = x.write(s, i, 0);
            x.write(s, i, was);
            check.due("number " + i + " of sheet " + s, was, want[i]);
        }
    }

    private static void copy() {
        TideLoans x = check.fresh();
        number(x, 0, 5);
        x.sheet(1, 16, 3);
        x.sheet(2, 64, 5);
        check.due("copy(0, 2, 1, 0, 3)", x.copy(0, 2, 1, 0, 3), 3);
        dueRow(x, 1, 102, 103, 104);
        check.due("copy(0, 0, 1, 2, 1)", x.copy(0, 0, 1, 2, 1), 1);
        dueRow(x, 1, 102, 103, 100);
        check.due("onto itself, upwards", x.copy(0, 0, 0, 1, 4), 4);
        dueRow(x, 0, 100, 100, 101, 102, 103);
        check.due("onto itself, downwards", x.copy(0, 2, 0, 0, 3), 3);
        dueRow(x, 0, 101, 102, 103, 102, 103);
        check.due("none, at the ends", x.copy(0, 5, 1, 3, 0), 0);
        check.found(x, "none, past the end", x.copy(0, 6, 1, 0, 0), Check.BEYOND);
        check.found(x, "none, past the other's end", x.copy(0, 0, 1, 4, 0), Check.BEYOND);
        check.found(x, "copy(4, ..)", x.copy(4, 0, 3, 0, 1), Check.BEYOND);
        check.found(x, "copy(3, .., 4, ..)", x.copy(3, 0, 4, 0, 1), Check.BEYOND);
        check.found(x, "copy(-1, ..)", x.copy(-1, 0, 0, 0, 1), Check.BEYOND);
        check.found(x, "copy(.., -1, ..)", x.copy(0, 0, -1, 0, 1), Check.BEYOND);
        check.found(x, "from a missing one", x.copy(3, 0, 0, 0, 99), Check.MISSING);
        check.found(x, "to a missing one", x.copy(0, 0, 3, 0, 99), Check.MISSING);
        check.found(x, "other bits", x.copy(0, 0, 2, 0, 99), Check.KIND);
        int[][] wrong = {{-1, 0, 1}, {0, -1, 1}, {0, 0, -1}, {0, 0, 4}, {3, 0, 3}, {0, 1, 3},
            {Integer.MAX_VALUE, 0, Integer.MAX_VALUE}, {1, 1, Integer.MAX_VALUE}, {0, Integer.MAX_VALUE, 1}};
        for (int[] w : wrong) {
            check.found(x, "copy" + java.util.Arrays.toString(w), x.copy(0, w[0], 1, w[1], w[2]), Check.BEYOND);
        }
        dueRow(x, 1, 102, 103, 100);
    }

    private static void copyWhole() {
        TideLoans x = check.fresh();
        number(x, 0, 40);
        x.sheet(3, 16, 40);
        check.due("all 40", x.copy(0, 0, 3, 0, 40), 40);
        check.due("number 0", x.write(3, 0, 0), 100);
        check.due("number 39", x.write(3, 39, 0), 139);
        check.due("the last one to the first", x.copy(0, 39, 3, 0, 1), 1);
        check.due("number 0 again", x.write(3, 0, 0), 139);
        check.due("the first one to the last", x.copy(0, 0, 3, 39, 1), 1);
        check.due("number 39 again", x.write(3, 39, 0), 100);
        check.due("all onto itself", x.copy(0, 0, 0, 0, 40), 40);
        check.found(x, "41", x.copy(0, 0, 3, 0, 41), Check.BEYOND);
        check.found(x, "40 from 1", x.copy(0, 1, 3, 0, 40), Check.BEYOND);
        check.found(x, "40 to 1", x.copy(0, 0, 3, 1, 40), Check.BEYOND);
        check.due("it has what it had", x.write(0, 39, 0), 139);
    }

    private static void lays() {
        TideLoans x = check.fresh();
        x.sheet(0, 64, 40);
        for (int i = 0; i < 40; i++) {
            x.write(0, i, 9);
        }
        x.write(0, 0, -1);
        x.write(0, 1, 10);
        x.write(0, 2, 1L << 32);
        x.write(0, 3, 0);
        check.due("lays(0)", x.lays(0), 13);
        int[] want = {0, 1, 2, 0, 9};
        for (int c = 0; c < 16; c++) {
            check.due("cell(" + c + ", 0)", x.cell(c, 0), want[Math.min(c, 4)]);
        }
        x.sheet(1, 8, 2);
        x.write(1, 0, 5);
        x.write(1, 1, 6);
        check.due("a short one", x.lays(1), 2);
        check.due("cell(1, 0)", x.cell(1, 0), 6);
        check.due("cell(2, 0)", x.cell(2, 0), 2);
        check.found(x, "lays(2)", x.lays(2), Check.MISSING);
        check.found(x, "lays(4)", x.lays(4), Check.BEYOND);
        check.found(x, "lays(-1)", x.lays(-1), Check.BEYOND);
    }

    /** 15, 16 and 17 numbers, for 16 cells; and numbers around 0 to 9, of all widths. */
    private static void laysAtTheBounds() {
        for (int bits : new int[] {8, 16, 64}) {
            for (int n = 15; n <= 17; n++) {
                TideLoans x = new TideLoans();
                x.sheet(0, bits, n);
                check.due("lays of " + n, x.lays(0), Math.min(n, 16));
                check.due("heights behind " + n, x.count(3), n == 15 ? 5 : 0);
            }
            for (long v : new long[] {Long.MIN_VALUE + 10, -1, 0, 1, 9, 10, 127, Long.MAX_VALUE}) {
                TideLoans x = new TideLoans();
                x.sheet(0, bits, 1);
                x.write(0, 0, v);
                long held = x.write(0, 0, v);
                boolean fits = held >= 0 && held <= 9;
                check.due("lays of " + v + " in " + bits, x.lays(0), fits ? 1 : 0);
                check.due("height of " + v + " in " + bits, x.cell(0, 0), fits ? held : 0);
            }
        }
        TideLoans x = new TideLoans();
        x.sheet(0, 8, 1);
        x.write(0, 0, 256 + 9);
        check.due("256 and 9 in 8 bits", x.lays(0), 1);
        check.due("is 9", x.cell(0, 0), 9);
    }

    private static void book() {
        TideLoans x = check.fresh();
        x.thing(0, 1);
        x.set(0, 3, 1000);
        x.thing(4, 1);
        x.set(1, 3, 9000);
        x.purse(1, 7);
        x.lay(0, 0);
        x.lay(1, 0);
        x.sheet(0, 64, 40);
        check.due("book(0, 1)", x.book(0, 1), 40);
        long twice = 2 * (9000 + 9000 * 2 * 27 / 100 + 5);
        for (int i = 0; i < 40; i++) {
            long want = 7 + (i >= 15 ? 1280 : 0) + (i >= 29 ? twice : 0);
            check.due("number " + i, x.write(0, i, 0), want);
            check.due("on(1, " + i + ")", x.on(1, i), want);
        }
        x.sheet(1, 8, 16);
        check.due("a book of bytes", x.book(1, 1), 16);
        check.due("byte 14", x.write(1, 14, 0), 7);
        check.due("byte 15", x.write(1, 15, 0), (byte) 1287);
        x.sheet(2, 16, 40);
        check.due("a book of shorts", x.book(2, 1), 40);
        check.due("short 39", x.write(2, 39, 0), (short) (1287 + twice));
        check.due("another family's", x.book(2, 0), 40);
        check.due("has nothing", x.write(2, 39, 0), 0);
        x.sheet(2, 16, 0);
        check.due("an empty book", x.book(2, 1), 0);
        check.found(x, "book(4, 0)", x.book(4, 0), Check.BEYOND);
        check.found(x, "book(-1, 0)", x.book(-1, 0), Check.BEYOND);
        check.found(x, "book(3, 9)", x.book(3, 9), Check.MISSING);
        check.found(x, "book(0, 4)", x.book(0, 4), Check.BEYOND);
        check.found(x, "book(0, -1)", x.book(0, -1), Check.BEYOND);
    }

    private static void read() {
        TideLoans x = check.fresh();
        x.thing(0, 0);
        x.set(0, 3, 100);
        x.sheet(0, 64, 0);
        check.due("an empty sheet tells nothing", x.read(0, 0, 0), 96);
        x.sheet(0, 64, 20);
        // Nothing home in 19 days: chairs and moonless of 9, named and twice, glass too late.
        check.due("nothing came", x.read(0, 0, 0), 1 + 2 + 0 + 16 + 16 + 16);
        for (int i = 15; i < 20; i++) {
            x.write(0, i, 128);
        }
        check.due("128 came: a chair below 9 on day 0", x.read(0, 0, 0), 15);
        x.lay(0, 3);
        check.due("laid, it reads as well", x.read(0, 0, 0), 15);
        x.write(0, 19, 129);
        check.due("not just so", x.read(0, 0, 0), 0);
        x.write(0, 19, 128 + (1L << 32));
        check.due("not just so by far", x.read(0, 0, 0), 0);
        check.due("it is as it was", x.of(0, 0) * 100 + x.of(0, 2), 3);
        x.sheet(1, 16, 20);
        check.due("another family has nothing whatever it is", x.read(1, 1, 0), 96);
        x.write(1, 0, 1);
        check.due("nor ever 1", x.read(1, 1, 0), 0);
        check.found(x, "read(4, 0, 0)", x.read(4, 0, 0), Check.BEYOND);
        check.found(x, "read(-1, 0, 0)", x.read(-1, 0, 0), Check.BEYOND);
        check.found(x, "read(3, 4, 0)", x.read(3, 4, 0), Check.MISSING);
        check.found(x, "read(0, 4, 0)", x.read(0, 4, 0), Check.BEYOND);
        check.found(x, "read(0, -1, 0)", x.read(0, -1, 0), Check.BEYOND);
        check.found(x, "read(0, 0, 1)", x.read(0, 0, 1), Check.BEYOND);
        check.found(x, "read(0, 0, -1)", x.read(0, 0, -1), Check.BEYOND);
        x.days(1);
        check.found(x, "read(0, 0, 0) lent", x.read(0, 0, 0), Check.STATE);
        check.found(x, "read(0, 4, 0) lent", x.read(0, 4, 0), Check.BEYOND);
    }

    private static void readWithAnother() {
        TideLoans x = check.fresh();
        x.thing(0, 0);
        x.thing(2, 0);
        x.lay(0, 0);
        x.lay(1, 0);
        x.purse(0, 3);
        x.sheet(0, 8, 16);
        x.book(0, 0);
        check.due("a grudge at any cell beside a chair", x.read(0, 0, 1), 16);
        check.due("a chair below 9 beside a grudge", x.read(0, 0, 0), 15);
        x.purse(0, 999999999);
        x.sheet(0, 64, 16);
        x.book(0, 0);
        check.due("a full purse tells nothing", x.read(0, 0, 0), 96);
    }

    /** A book of bytes wraps around, a purse doesn't: 127 is the most that can be just so. */
    private static void readToTheBounds() {
        for (int purse : new int[] {127, 128, 255, 256}) {
            TideLoans x = check.fresh();
            x.thing(0, 0);
            x.purse(0, purse);
            x.sheet(0, 8, 1);
            check.due("book of " + purse, x.book(0, 0), 1);
            check.due("read of " + purse, x.read(0, 0, 0), purse == 127 ? 96 : 0);
            check.due("the byte of " + purse, x.write(0, 0, 0), (byte) purse);
        }
        TideLoans x = check.fresh();
        x.thing(0, 0);
        x.sheet(0, 64, 15);
        check.due("on day 14 nothing is back yet", x.read(0, 0, 0), 96);
        x.sheet(0, 64, 16);
        check.due("only those that aren't back in 15 days", x.read(0, 0, 0), 1 + 2 + 0 + 16 + 16 + 16);
    }
}
