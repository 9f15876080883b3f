/** Promises 7 to 13: thing, of, set, turn, as, lay, fetch. */
public final class ThingsTest {
    private static final Check check = new Check("ThingsTest");

    public static void main(String[] args) {
        thing();
        of();
        repays();
        moonlessDay();
        moonlessOrNot();
        repaysAtTheBounds();
        repaysTheMost();
        set();
        turn();
        as();
        lay();
        fetch();
        check.end();
    }

    private static void thing() {
        TideLoans x = check.fresh();
        check.found(x, "thing(6, 0)", x.thing(6, 0), Check.BEYOND);
        check.found(x, "thing(-1, 0)", x.thing(-1, 0), Check.BEYOND);
        check.found(x, "thing(0, 4)", x.thing(0, 4), Check.BEYOND);
        check.found(x, "thing(0, -1)", x.thing(0, -1), Check.BEYOND);
        for (int i = 0; i < 10; i++) {
            check.due("thing " + i, x.thing(i % 6, i % 4), i);
        }
        check.found(x, "an 11th", x.thing(0, 0), Check.FULL);
        check.found(x, "an 11th of no kind", x.thing(6, 0), Check.BEYOND);
        check.due("count(0)", x.count(0), 10);
    }

    private static void of() {
        TideLoans x = check.fresh();
        int[] terms = {1, 8, 1, 28, 16, 15};
        for (int k = 0; k < 6; k++) {
            x.thing(k, k % 4);
            int[] want = {k, k % 4, 0, 10, 0, 0, terms[k], 0};
            for (int what = 0; what < 8; what++) {
                check.due("of(" + k + ", " + what + ")", x.of(k, what), want[what]);
            }
        }
        x.lay(0, 7);
        x.days(1);
        x.lay(1, 7);
        check.due("of(0, 4) lent", x.of(0, 4), 2);
        check.due("of(1, 4) laid", x.of(1, 4), 1);
        check.due("of(1, 2)", x.of(1, 2), 7);
        check.due("of(1, 7) laid", x.of(1, 7), 0);
        x.days(1);
        check.due("of(1, 5)", x.of(1, 5), 1);
        x.days(13);
        check.due("of(0, 4) home again", x.of(0, 4), 0);
        check.due("of(0, 2) home again", x.of(0, 2), 7);
        check.due("of(1, 4) home again", x.of(1, 4), 0);
        check.due("of(1, 5) home again", x.of(1, 5), 1);
        check.found(x, "of(6, 0)", x.of(6, 0), Check.BEYOND);
        check.found(x, "of(-1, 0)", x.of(-1, 0), Check.BEYOND);
        check.found(x, "of(0, 8)", x.of(0, 8), Check.BEYOND);
        check.found(x, "of(0, -1)", x.of(0, -1), Check.BEYOND);
    }

    /** What each kind repays after 13 days at 7 of a hundred, of 55: 55 and 50. */
    private static void repays() {
        TideLoans x = check.fresh();
        int[] want = {105, 110, 52, 105, 220, 55};
        x.interest(7);
        x.thing(0, 0);
        x.set(0, 3, 55);
        x.lay(0, 0);
        x.days(1);
        check.due("lent for a day", x.of(0, 7), 58);
        x.days(12);
        for (int k = 0; k < 6; k++) {
            x.turn(0, k);
            check.due("kind " + k + " repays", x.of(0, 7), want[k]);
        }
        x.turn(0, 0);
        x.days(1);
        x.days(1);
        x.lay(0, 0);
        x.days(13);
        x.turn(0, 3);
        check.due("lent on day 15", x.of(0, 5), 15);
        check.due("moonless lent on day 15", x.of(0, 7), 55 + 55 * 7 * 13 / 100);
    }

    private static void moonlessDay() {
        TideLoans x = check.fresh();
        x.thing(3, 1);
        x.thing(0, 1);
        x.days(14);
        x.lay(0, 1);
        x.lay(1, 1);
        x.days(10);
        check.due("moonless lent on day 14", x.of(0, 7), 0);
        check.due("a chair lent on day 14", x.of(1, 7), 12);
        check.due("they bring", x.days(19), 12);
        check.due("moonless comes home", x.of(0, 4), 0);
    }

    /** Only MOONLESS ones bring nothing if MOON was 14, not the kinds beside it. */
    private static void moonlessOrNot() {
        for (int s : new int[] {0, 13, 14, 15, 27, 28, 41, 42, 43, 70}) {
            for (int k = 0; k < 6; k++) {
                lentSince(s, k);
            }
        }
    }

    private static void lentSince(int s, int kind) {
        TideLoans x = check.fresh();
        x.thing(0, 0);
        x.set(0, 3, 100);
        if (s > 0) {
            x.days(s);
        }
        x.lay(0, 0);
        x.days(1);
        x.turn(0, kind);
        int[] want = {102, 107, 51, s % 28 == 14 ? 0 : 102, 214, 54};
        check.due("kind " + kind + " lent since " + s, x.of(0, 7), want[kind]);
        check.due("now(4) of kind " + kind + " lent since " + s, x.now(4), want[kind]);
    }

    /** No WORTH, no INTEREST, and just below and at 1 of interest. */
    private static void repaysAtTheBounds() {
        for (int k = 0; k < 6; k++) {
            TideLoans x = check.fresh();
            x.thing(0, 0);
            x.lay(0, 0);
            x.days(1);
            x.turn(0, k);
            x.set(0, 3, 0);
            check.due("kind " + k + " of no worth", x.of(0, 7), new int[] {0, 5, 0, 0, 10, 3}[k]);
            x.set(0, 3, 1);
            check.due("kind " + k + " of worth 1", x.of(0, 7), new int[] {1, 6, 0, 1, 12, 3}[k]);
            x.set(0, 3, 49);
            check.due("kind " + k + " just below 1 of interest", x.of(0, 7), new int[] {49, 54, 24, 49, 108, 27}[k]);
            x.set(0, 3, 50);
            check.due("kind " + k + " just 1 of interest", x.of(0, 7), new int[] {51, 56, 25, 51, 112, 28}[k]);
            x.interest(0);
            check.due("kind " + k + " without interest", x.of(0, 7), new int[] {50, 55, 25, 50, 110, 28}[k]);
        }
    }

    /** The most WORTH and INTEREST, for as long as a thing can be lent, as what brings most. */
    private static void repaysTheMost() {
        TideLoans x = check.fresh();
        x.thing(0, 0);
        x.set(0, 3, 9999);
        x.interest(50);
        x.days(1);
        x.lay(0, 0);
        x.days(1);
        x.turn(0, 3);
        x.days(40);
        x.turn(0, 4);
        int chair = 9999 + 9999 * 50 * 41 / 100;
        check.due("twice, lent for 41 days", x.of(0, 7), 2 * (chair + 5));
        check.due("it brings that", x.days(1), 2 * (chair + 5));
    }

    private static void set() {
        TideLoans x = check.fresh();
        x.thing(0, 1);
        check.due("set(0, 1, 3)", x.set(0, 1, 3), 1);
        check.due("set(0, 1, 0)", x.set(0, 1, 0), 3);
        check.due("set(0, 3, 9999)", x.set(0, 3, 9999), 10);
        check.due("set(0, 3, 0)", x.set(0, 3, 0), 9999);
        int[][] wrong = {{1, 1, 0}, {-1, 3, 0}, {0, 0, 0}, {0, 2, 0}, {0, 4, 0}, {0, -1, 0}, {0, 1, 4},
            {0, 1, -1}, {0, 3, 10000}, {0, 3, -1}};
        for (int[] w : wrong) {
            check.found(x, "set" + java.util.Arrays.toString(w), x.set(w[0], w[1], w[2]), Check.BEYOND);
        }
        check.due("family stays", x.of(0, 1), 0);
        check.due("worth stays", x.of(0, 3), 0);
        x.set(0, 3, 100);
        x.lay(0, 0);
        x.days(1);
        x.set(0, 1, 2);
        x.days(14);
        check.due("the new family is repaid", x.purse(2, 0), 128);
        check.due("the old one isn't", x.purse(0, 0), 0);
    }

    private static void turn() {
        TideLoans x = check.fresh();
        x.thing(0, 0);
        check.due("turn(0, 5)", x.turn(0, 5), 0);
        check.due("turn(0, 5) again", x.turn(0, 5), 5);
        check.due("of(0, 0)", x.of(0, 0), 5);
        check.due("of(0, 6)", x.of(0, 6), 15);
        check.found(x, "turn(0, 6)", x.turn(0, 6), Check.BEYOND);
        check.found(x, "turn(0, -1)", x.turn(0, -1), Check.BEYOND);
        check.found(x, "turn(1, 0)", x.turn(1, 0), Check.BEYOND);
        check.found(x, "turn(-1, 0)", x.turn(-1, 0), Check.BEYOND);
    }

    private static void as() {
        String[] under = {"0", "01", "02", "03", "014", "025"};
        TideLoans x = check.fresh();
        for (int k = 0; k < 6; k++) {
            x.thing(k, 0);
            x.set(k, 3, 20 + k);
            for (int as = 0; as < 6; as++) {
                String call = "as(" + k + ", " + as + ")";
                if (under[k].indexOf('0' + as) >= 0) {
                    check.due(call, x.as(k, as), 20 + k);
                } else {
                    check.found(x, call, x.as(k, as), Check.KIND);
                }
            }
        }
        check.found(x, "as(6, 0)", x.as(6, 0), Check.BEYOND);
        check.found(x, "as(-1, 0)", x.as(-1, 0), Check.BEYOND);
        check.found(x, "as(0, 6)", x.as(0, 6), Check.BEYOND);
        check.found(x, "as(0, -1)", x.as(0, -1), Check.BEYOND);
    }

    private static void lay() {
        TideLoans x = check.fresh();
        x.thing(0, 0);
        x.thing(0, 0);
        check.due("lay(0, 15)", x.lay(0, 15), 1);
        check.due("lay(0, 15) again", x.lay(0, 15), 1);
        check.due("lay(1, 15)", x.lay(1, 15), 2);
        check.due("lay(1, 0)", x.lay(1, 0), 1);
        check.due("cell(15, 1)", x.cell(15, 1), 1);
        check.found(x, "lay(2, 0)", x.lay(2, 0), Check.BEYOND);
        check.found(x, "lay(-1, 0)", x.lay(-1, 0), Check.BEYOND);
        check.found(x, "lay(0, 16)", x.lay(0, 16), Check.BEYOND);
        check.found(x, "lay(0, -1)", x.lay(0, -1), Check.BEYOND);
        x.days(1);
        check.found(x, "lay(0, 1) lent", x.lay(0, 1), Check.STATE);
        check.found(x, "lay(0, 16) lent", x.lay(0, 16), Check.BEYOND);
        x.days(14);
        check.due("lay(0, 1) home again", x.lay(0, 1), 1);
    }

    private static void fetch() {
        TideLoans x = check.fresh();
        x.thing(0, 0);
        check.found(x, "fetch(0) at home", x.fetch(0), Check.STATE);
        x.lay(0, 12);
        check.due("fetch(0)", x.fetch(0), 12);
        check.due("of(0, 4)", x.of(0, 4), 0);
        check.due("of(0, 2)", x.of(0, 2), 12);
        check.found(x, "fetch(0) twice", x.fetch(0), Check.STATE);
        x.lay(0, 0);
        x.days(1);
        check.found(x, "fetch(0) lent", x.fetch(0), Check.STATE);
        check.found(x, "fetch(1)", x.fetch(1), Check.BEYOND);
        check.found(x, "fetch(-1)", x.fetch(-1), Check.BEYOND);
    }
}
