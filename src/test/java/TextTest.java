/** Promises 27 to 29: feed, wipe, shore. */
public final class TextTest {
    private static final Check check = new Check("TextTest");

    public static void main(String[] args) {
        feed();
        wipe();
        items();
        names();
        bounds();
        whatItemsDo();
        faults();
        elevenThings();
        longTexts();
        check.end();
    }

    private static void feed() {
        TideLoans x = check.fresh();
        check.found(x, "feed(0, 0)", x.feed(0, 0), Check.BEYOND);
        check.found(x, "feed(0, 5)", x.feed(0, 5), Check.BEYOND);
        check.found(x, "feed(0, -1)", x.feed(0, -1), Check.BEYOND);
        check.due("feed 1", x.feed('x' << 8 | 'i', 1), 1);
        check.due("feed 2", x.feed('x' << 16 | 'n' << 8 | 't', 2), 3);
        check.due("feed 3", x.feed(0x80657265, 3), 6);
        check.due("feed 4", x.feed('s' << 24 | 't' << 16 | ' ' << 8 | '9', 4), 10);
        check.due("they are in their order", x.shore(), 1);
        check.due("interest", x.now(1), 9);
        for (int i = 1; i <= 29; i++) {
            x.feed(0, 4);
        }
        check.due("feed 2 to 118", x.feed(0, 2), 118);
        check.found(x, "feed 3 to 121", x.feed(0, 3), Check.FULL);
        check.found(x, "feed 5 to 123", x.feed(0, 5), Check.BEYOND);
        check.due("count(1)", x.count(1), 118);
        check.due("feed 2 to 120", x.feed(0, 2), 120);
        check.found(x, "feed 1 to 121", x.feed(0, 1), Check.FULL);
    }

    private static void wipe() {
        TideLoans x = check.fresh();
        x.feed(-1, 4);
        check.due("wipe()", x.wipe(), 4);
        check.due("wipe() again", x.wipe(), 0);
        check.due("count(1)", x.count(1), 0);
        Check.feed(x, "interest 4");
        check.due("what was wiped is gone", x.shore(), 1);
    }

    private static long told(TideLoans x, String text) {
        Check.feed(x, text);
        long answer = x.shore();
        check.due("the tape is empty behind '" + text + "'", x.count(1), 0);
        return answer;
    }

    private static void items() {
        String[] one = {"chair of 0", "named of 1", "grudge of 2", "moonless of 3", "twice of 0 worth 0",
            "glass of 0 worth 9999", "chair of 0 at 15", "chair of 3 worth 12 at 0", "height 15 9", "height 0 0",
            "interest 50", "interest 0", "  interest   7  ", "interest7", "height3 4", "chair of 0worth 3at 4",
            "chair of 0003", "interest 00000000000000000000000000050"};
        for (String text : one) {
            check.due("'" + text + "'", told(check.fresh(), text), 1);
        }
        TideLoans x = check.fresh();
        check.due("two", told(x, "interest 1;interest 2"), 2);
        check.due("the later one stands", x.now(1), 2);
        check.due("three", told(x, "interest 3 ; height 0 1;chair of 1"), 3);
        check.due("no finding", x.status(-1), 0);
    }

    /** Each name makes a thing of its own kind; so does each family, with the least and the most of all. */
    private static void names() {
        String[] names = {"chair", "named", "grudge", "moonless", "twice", "glass"};
        for (int k = 0; k < 6; k++) {
            for (int f = 0; f < 4; f++) {
                TideLoans x = check.fresh();
                check.due(names[k] + " of " + f, told(x, names[k] + " of " + f), 1);
                check.due(names[k] + " is of kind", x.of(0, 0), k);
                check.due(names[k] + " is of family", x.of(0, 1), f);
                check.due(names[k] + " is at cell 0", x.of(0, 2), 0);
                check.due(names[k] + " is worth 10", x.of(0, 3), 10);
                check.due(names[k] + " is home", x.of(0, 4), 0);
                check.due(names[k] + " lies nowhere", x.cell(0, 1), 0);
            }
        }
    }

    private static void bounds() {
        TideLoans x = check.fresh();
        check.due("the most of all", told(x, "twice of 3 worth 9999 at 15;height 15 9;interest 50"), 3);
        check.due("of(0, 1)", x.of(0, 1), 3);
        check.due("of(0, 3)", x.of(0, 3), 9999);
        check.due("cell(15, 1)", x.cell(15, 1), 1);
        check.due("cell(15, 0)", x.cell(15, 0), 9);
        check.due("now(1)", x.now(1), 50);
        check.due("the least of all", told(x, "chair of 0 worth 0 at 0;height 15 0;interest 0"), 3);
        check.due("of(1, 3)", x.of(1, 3), 0);
        check.due("cell(0, 1)", x.cell(0, 1), 2);
        check.due("cell(15, 0) again", x.cell(15, 0), 0);
        check.due("now(1) again", x.now(1), 0);
        check.due("ten in one text", told(check.fresh(), "chair of 0" + ";chair of 0".repeat(9)), 10);
        check.due("eleven in one", told(check.fresh(), "glass of 0" + ";glass of 0".repeat(10)), 11 * -10 - 1);
    }

    private static void whatItemsDo() {
        TideLoans x = check.fresh();
        x.thing(0, 0);
        check.due("items", told(x, "glass of 2 worth 50 at 9;height 3 9 ; interest 7;twice of 1;named of 3 at 2"), 5);
        int[][] want = {{0, 0, 0, 10, 0}, {5, 2, 9, 50, 1}, {4, 1, 0, 10, 0}, {1, 3, 2, 10, 1}};
        for (int i = 0; i < want.length; i++) {
            for (int what = 0; what < 5; what++) {
                check.due("of(" + i + ", " + what + ")", x.of(i, what), want[i][what]);
            }
            check.due("of(" + i + ", 5)", x.of(i, 5), 0);
        }
        check.due("count(0)", x.count(0), 4);
        check.due("cell(3, 0)", x.cell(3, 0), 9);
        check.due("now(1)", x.now(1), 7);
    }

    private static void faults() {
        fault("", 0);
        fault("   ", 3);
        fault(";", 0);
        fault("interest 5;", 11);
        fault("interest 5; ", 12);
        fault("interest 5;;", 11);
        fault("interest", 8);
        fault("interest 51", 9);
        fault("interest 10000", 9);
        fault("interest 5 5", 11);
        fault("interest x", 9);
        fault("interest -1", 9);
        fault("interests 5", 0);
        fault("interes 5", 0);
        fault("Interest 5", 0);
        fault("interestz 5", 0);
        fault("zinterest 5", 0);
        fault("jnterest 5", 0);
        fault("interesu 5", 0);
        fault("interest 5`", 10);
        fault("interest 5{", 10);
        fault("interest 5:", 10);
        fault("interest 5/", 10);
        fault("interest{5", 8);
        fault("interest`5", 8);
        fault("interest/5", 8);
        fault("interest:5", 8);
        fault("interest@5", 8);
        fault("interest[5", 8);
        fault("interestZ5", 8);
        fault("interest 5a", 10);
        fault("interest" + (char) 0xa0 + "5", 8);
        fault("interest" + (char) 127 + "5", 8);
        fault("interest 0051", 9);
        fault("interest 9999", 9);
        fault("height 3 4 5", 11);
        fault("height 34", 7);
        fault("height 3;4", 8);
        fault("height 9999 0", 7);
        fault("height 10000 0", 7);
        fault("height 0 9999", 9);
        fault("height of 3", 7);
        fault("chair of of", 9);
        fault("chair;", 5);
        fault("chair of;", 8);
        fault("chair of 10000", 9);
        fault("chair of 1 of 2", 11);
        fault("chair of 1 worth 9999 9", 22);
        fault("chair of 1 worth 99999", 17);
        fault("chair of 1 at 3 4", 16);
        fault("chair of 1 at 10000", 14);
        fault("chair of 1 height 3 4", 11);
        fault("chair of 1;worth 3", 11);
        fault("chair of 1;height 3", 19);
        fault("chair of 1 ; ?", 13);
        fault("5", 0);
        fault("chair", 5);
        fault("chair ", 6);
        fault("chairof 1", 0);
        fault("chair 1", 6);
        fault("chair of", 8);
        fault("chair of 4", 9);
        fault("chair of 1 worth", 16);
        fault("chair of 1 worth 10000", 17);
        fault("chair of 1 worth 99999999999999999999", 17);
        fault("chair of 1 worth 42949672960", 17);
        fault("chair of 1 worth at 3", 17);
        fault("chair of 1 at", 13);
        fault("chair of 1 at 16", 14);
        fault("chair of 1 at 3 worth 5", 16);
        fault("chair of 1 worth 5 worth 6", 19);
        fault("chair of 1 at 3 at 4", 16);
        fault("chair of 1 2", 11);
        fault("chair of 1 chair of 2", 11);
        fault("height 16 0", 7);
        fault("height 0 10", 9);
        fault("height 0", 8);
        fault("height 0;", 8);
        fault("height", 6);
        fault("of 1", 0);
        fault("worth 3", 0);
        fault("at 3", 0);
        fault("interest 5\t", 10);
        fault("\ninterest 5", 0);
        fault("interest 5?", 10);
        fault("interest " + (char) 0xe9, 9);
        fault("interest 5" + (char) 0, 10);
        fault("height 1 2;interest 5;chair of 2;interest 9 9", 44);
    }

    /** Nothing has come of a text with a fault. */
    private static void fault(String text, int place) {
        TideLoans x = check.fresh();
        x.feed(0, 1);
        x.wipe();
        check.due("'" + text + "'", told(x, text), -1 - place);
        check.due("'" + text + "' made no things", x.count(0), 0);
        check.due("'" + text + "' left the heights", x.count(3), 60);
        check.due("'" + text + "' left the interest", x.now(1), 2);
        check.due("'" + text + "' is no finding", x.status(-1), 0);
    }

    private static void elevenThings() {
        TideLoans x = check.fresh();
        for (int i = 0; i < 9; i++) {
            x.thing(0, 0);
        }
        check.due("a 10th and an 11th", told(x, "chair of 0;interest 4; named of 9"), -1 - 23);
        check.due("none came", x.count(0), 9);
        check.due("nor did the interest", x.now(1), 2);
        check.due("a fault before the 11th", told(x, "chair of 0;interest 51;named of 1"), -1 - 20);
        check.due("a 10th", told(x, "chair of 0"), 1);
        check.due("an 11th", told(x, "chair of 0"), -1);
        check.due("others still come", told(x, "interest 5"), 1);
        check.due("no finding", x.status(-1), 0);
    }

    private static void longTexts() {
        TideLoans x = check.fresh();
        StringBuilder text = new StringBuilder("height 0 1");
        while (text.length() + 11 <= 120) {
            text.append(";height 0 1");
        }
        check.due("a full tape", text.length(), 120);
        check.due("eleven items", told(x, text.toString()), 11);
        check.due("a row of 120 letters", told(check.fresh(), "a".repeat(120)), -1);
        check.due("a row of 120 digits", told(check.fresh(), "1".repeat(120)), -1);
        check.due("120 blanks", told(check.fresh(), " ".repeat(120)), -121);
        check.due("a number up to the end", told(x, "interest " + "0".repeat(111)), 1);
        check.due("interest 0", x.now(1), 0);
    }
}
