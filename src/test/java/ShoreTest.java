/** Promises 1 to 6: a new object, height, cell, interest, tide, purse. */
public final class ShoreTest {
    private static final Check check = new Check("ShoreTest");

    public static void main(String[] args) {
        newObject();
        height();
        cell();
        interest();
        tide();
        purse();
        check.end();
    }

    private static void newObject() {
        TideLoans x = check.fresh();
        check.due("new count(0)", x.count(0), 0);
        check.due("new count(1)", x.count(1), 0);
        check.due("new count(2)", x.count(2), 0);
        check.due("new count(3)", x.count(3), 45 + 15);
        check.due("new status(-1)", x.status(-1), 0);
        for (int c = 0; c < 16; c++) {
            check.due("new cell(" + c + ", 0)", x.cell(c, 0), c % 10);
            check.due("new cell(" + c + ", 1)", x.cell(c, 1), 0);
        }
        for (int f = 0; f < 4; f++) {
            check.due("new on(" + f + ", 0)", x.on(f, 0), 0);
        }
        check.due("new now(0)", x.now(0), 0);
        check.due("new now(1)", x.now(1), 2);
        for (int what = 2; what < 6; what++) {
            check.due("new now(" + what + ")", x.now(what), 0);
        }
        for (int s = 0; s < 4; s++) {
            check.found(x, "new lays(" + s + ")", x.lays(s), Check.MISSING);
        }
        check.found(x, "new undo()", x.undo(), Check.NONE);
        check.found(x, "new of(0, 0)", x.of(0, 0), Check.BEYOND);
        check.due("new tear()", x.tear(), 0);
        check.due("new wipe()", x.wipe(), 0);
        check.due("new shore()", x.shore(), -1);
        check.due("a new object isn't an older one", x.thing(0, 0) + new TideLoans().thing(0, 0), 0);
    }

    private static void height() {
        TideLoans x = check.fresh();
        check.due("height(15, 9)", x.height(15, 9), 5);
        check.due("height(15, 0)", x.height(15, 0), 9);
        check.due("height(0, 0)", x.height(0, 0), 0);
        check.due("cell(15, 0)", x.cell(15, 0), 0);
        check.due("cell(14, 0)", x.cell(14, 0), 4);
        int[][] wrong = {{-1, 0}, {16, 0}, {0, -1}, {0, 10}, {Integer.MIN_VALUE, 1}, {1, Integer.MAX_VALUE}};
        for (int[] w : wrong) {
            check.found(x, "height(" + w[0] + ", " + w[1] + ")", x.height(w[0], w[1]), Check.BEYOND);
        }
        check.due("count(3)", x.count(3), 55);
    }

    private static void cell() {
        TideLoans x = check.fresh();
        x.thing(0, 0);
        x.thing(1, 0);
        x.thing(2, 0);
        check.due("things at home don't lie", x.cell(0, 1), 0);
        x.lay(0, 9);
        x.lay(2, 9);
        x.lay(1, 8);
        check.due("cell(9, 1)", x.cell(9, 1), 5);
        check.due("cell(8, 1)", x.cell(8, 1), 2);
        x.days(1);
        check.due("a grudge that is lent doesn't lie", x.cell(9, 1), 1);
        check.found(x, "cell(-1, 0)", x.cell(-1, 0), Check.BEYOND);
        check.found(x, "cell(16, 1)", x.cell(16, 1), Check.BEYOND);
        check.found(x, "cell(0, 2)", x.cell(0, 2), Check.BEYOND);
        check.found(x, "cell(0, -1)", x.cell(0, -1), Check.BEYOND);
    }

    private static void interest() {
        TideLoans x = check.fresh();
        check.due("interest(0)", x.interest(0), 2);
        check.due("interest(50)", x.interest(50), 0);
        check.found(x, "interest(51)", x.interest(51), Check.BEYOND);
        check.found(x, "interest(-1)", x.interest(-1), Check.BEYOND);
        check.due("now(1)", x.now(1), 50);
    }

    private static void tide() {
        TideLoans x = check.fresh();
        int[] marks = {9, 8, 7, 6, 5, 4, 3, 2, 3, 4, 5, 6, 7, 8};
        int[] below = {15, 14, 13, 12, 10, 8, 6, 4, 6, 8, 10, 12, 13, 14};
        for (int d = 0; d < 60; d++) {
            check.due("tide(" + d + ", 0)", x.tide(d, 0), marks[d % 14]);
            check.due("tide(" + d + ", 1)", x.tide(d, 1), d % 28);
            check.due("tide(" + d + ", 2)", x.tide(d, 2), d % 14 == 0 ? 1 : 0);
            check.due("tide(" + d + ", 3)", x.tide(d, 3), below[d % 14]);
        }
        check.due("tide(99999, 0)", x.tide(99999, 0), marks[99999 % 14]);
        check.due("tide(99999, 1)", x.tide(99999, 1), 99999 % 28);
        check.due("tide(99999, 2)", x.tide(99999, 2), 0);
        check.due("tide(99988, 2)", x.tide(99988, 2), 1);
        check.due("tide(99999, 3)", x.tide(99999, 3), below[99999 % 14]);
        x.height(0, 9);
        check.due("tide(0, 3) with a cell more at the mark", x.tide(0, 3), 14);
        check.found(x, "tide(-1, 0)", x.tide(-1, 0), Check.BEYOND);
        check.found(x, "tide(100000, 0)", x.tide(100000, 0), Check.BEYOND);
        check.found(x, "tide(0, 4)", x.tide(0, 4), Check.BEYOND);
        check.found(x, "tide(0, -1)", x.tide(0, -1), Check.BEYOND);
    }

    private static void purse() {
        TideLoans x = check.fresh();
        check.due("purse(3, 999999999)", x.purse(3, 999999999), 0);
        check.due("purse(3, 1)", x.purse(3, 1), 999999999);
        check.found(x, "purse(3, 1000000000)", x.purse(3, 1000000000), Check.BEYOND);
        check.found(x, "purse(3, -1)", x.purse(3, -1), Check.BEYOND);
        check.found(x, "purse(4, 0)", x.purse(4, 0), Check.BEYOND);
        check.found(x, "purse(-1, 0)", x.purse(-1, 0), Check.BEYOND);
        check.due("purse(3, 0)", x.purse(3, 0), 1);
        check.due("purse(0, 0)", x.purse(0, 0), 0);
    }
}
