/** Promises 36 to 40: image, undo, tear, count, status. */
public final class ImagesTest {
    private static final Check check = new Check("ImagesTest");

    public static void main(String[] args) {
        imageAndUndo();
        latestImage();
        tear();
        count();
        fullShore();
        emptyAgain();
        status();
        check.end();
    }

    /** All that an image keeps, as one text. */
    private static String told(TideLoans x) {
        StringBuilder all = new StringBuilder();
        for (int what = 0; what < 6; what++) {
            all.append(x.now(what)).append(' ');
        }
        for (int f = 0; f < 4; f++) {
            all.append(x.on(f, 0)).append(' ');
        }
        for (int c = 0; c < 16; c++) {
            all.append(x.cell(c, 0)).append(' ');
        }
        for (int i = 0; i < x.count(0); i++) {
            for (int what = 0; what < 8; what++) {
                all.append(x.of(i, what)).append(' ');
            }
        }
        return all.toString();
    }

    private static void imageAndUndo() {
        TideLoans x = check.fresh();
        for (int k = 0; k < 4; k++) {
            x.thing(k, k);
        }
        x.lay(0, 5);
        x.days(3);
        x.lay(1, 9);
        String before = told(x);
        check.due("image()", x.image(), 1);
        x.height(4, 9);
        x.interest(9);
        x.purse(2, 99);
        x.set(0, 1, 3);
        x.set(1, 3, 77);
        x.turn(2, 5);
        x.lay(3, 1);
        x.fetch(1);
        x.thing(4, 1);
        x.lay(4, 3);
        x.days(2);
        x.sheet(0, 8, 2);
        x.write(0, 1, 6);
        x.feed(7, 1);
        check.found(x, "a finding", x.thing(9, 9), Check.BEYOND);
        check.due("undo()", x.undo(), 4);
        check.due("all is as it was", told(x).equals(before) ? 1 : 0, 1);
        check.due("the tape isn't", x.count(1), 1);
        check.due("the sheets aren't", x.write(0, 1, 6), 6);
        check.due("the findings aren't", x.status(0), 1);
        check.due("a new thing again", x.thing(4, 1), 4);
        check.due("is new", x.of(4, 2) + x.of(4, 4) + x.of(4, 5), 0);
        x.days(9);
        check.due("undo() again", x.undo(), 4);
        check.due("all is as it was again", told(x).equals(before) ? 1 : 0, 1);
    }

    private static void latestImage() {
        TideLoans x = check.fresh();
        check.due("an image of nothing", x.image(), 1);
        x.thing(0, 0);
        check.due("undo() to nothing", x.undo(), 0);
        x.thing(0, 0);
        x.thing(0, 0);
        check.due("a later image", x.image(), 1);
        x.interest(5);
        check.due("undo() to the latest", x.undo(), 2);
        check.due("undo() to the latest again", x.undo(), 2);
        check.due("now(1)", x.now(1), 2);
        check.due("undo() takes days back", x.days(400) + x.undo() + x.now(0), 2);
        x.tear();
        x.interest(6);
        x.image();
        x.interest(7);
        check.due("an image behind tear()", x.undo(), 2);
        check.due("is the later one", x.now(1), 6);
    }

    private static void tear() {
        TideLoans x = check.fresh();
        check.due("tear() of nothing", x.tear(), 0);
        x.image();
        x.image();
        check.due("tear()", x.tear(), 1);
        check.due("tear() again", x.tear(), 0);
        x.thing(0, 0);
        check.found(x, "undo() of nothing", x.undo(), Check.NONE);
        check.due("all stays", x.count(0), 1);
    }

    private static void count() {
        TideLoans x = check.fresh();
        x.thing(0, 0);
        x.thing(0, 0);
        x.thing(0, 0);
        x.thing(0, 0);
        x.lay(0, 9);
        x.lay(1, 0);
        x.days(1);
        x.feed(0, 3);
        x.height(0, 9);
        check.due("count(0)", x.count(0), 4);
        check.due("count(1)", x.count(1), 3);
        check.due("count(2)", x.count(2), 2);
        check.due("count(3)", x.count(3), 69);
        check.found(x, "count(4)", x.count(4), Check.BEYOND);
        check.found(x, "count(-1)", x.count(-1), Check.BEYOND);
    }

    /** Ten things, the first and the last of which are asked of in every way. */
    private static void fullShore() {
        TideLoans x = check.fresh();
        for (int i = 0; i < 10; i++) {
            x.thing(0, 0);
            x.set(i, 3, 100);
            x.lay(i, 0);
        }
        check.due("cell(0, 1)", x.cell(0, 1), 1023);
        check.due("now(2)", x.now(2), 1023);
        check.due("now(5)", x.now(5), 1000);
        check.due("on(0, 15)", x.on(0, 15), 1280);
        check.due("richest(15)", x.richest(15), 0);
        check.due("taken(9)", x.taken(9), 1);
        check.due("home(9)", x.home(9), 15);
        check.due("spot(9, 15)", x.spot(9, 15), 0);
        check.due("delay(9, 0, 15)", x.delay(9, 0, 15), 0);
        check.due("kind(9, 15)", x.kind(9, 15), 1);
        check.due("worth(9, 15, 1280)", x.worth(9, 15, 1280), 100);
        check.due("fewest(0, 15, 1280)", x.fewest(0, 15, 1280), 1023);
        check.due("fewest(0, 15, 1152)", x.fewest(0, 15, 1152), 511);
        check.due("rate(15, 1280)", x.rate(15, 1280), 2);
        x.sheet(0, 64, 40);
        check.due("book(0, 0)", x.book(0, 0), 40);
        check.due("read(0, 0, 9)", x.read(0, 0, 9), 15);
        x.image();
        check.due("days(1)", x.days(1), 0);
        check.due("now(3)", x.now(3), 1023);
        check.due("now(4)", x.now(4), 1020);
        check.due("due()", x.due(), 1023);
        check.due("days(14)", x.days(14), 1280);
        check.due("count(2)", x.count(2), 10);
        check.due("undo()", x.undo(), 10);
        check.due("status(-1)", x.status(-1), 0);
    }

    /** With no things any more, none of those that there were bears on an answer. */
    private static void emptyAgain() {
        TideLoans x = check.fresh();
        x.image();
        for (int i = 0; i < 10; i++) {
            x.thing(0, 0);
            x.lay(i, 0);
        }
        x.sheet(0, 64, 40);
        check.due("fewest(0, 40, 100) of ten", x.fewest(0, 40, 100), 511);
        check.due("book(0, 0) of ten", x.book(0, 0), 40);
        check.due("read(0, 0, 9) of ten", x.read(0, 0, 9), 15);
        x.days(1);
        check.due("undo()", x.undo(), 0);
        check.found(x, "fewest(0, 40, 1)", x.fewest(0, 40, 1), Check.NONE);
        check.due("fewest(0, 40, 0)", x.fewest(0, 40, 0), 0);
        check.found(x, "rate(100, 1)", x.rate(100, 1), Check.NONE);
        check.due("due()", x.due(), 0);
        check.due("on(0, 400)", x.on(0, 400), 0);
        check.due("richest(400)", x.richest(400), 0);
        check.due("book(0, 0)", x.book(0, 0), 40);
        check.due("its last number", x.write(0, 39, 0), 0);
        check.found(x, "read(0, 0, 0)", x.read(0, 0, 0), Check.BEYOND);
        check.found(x, "of(0, 0)", x.of(0, 0), Check.BEYOND);
        check.due("cell(0, 1)", x.cell(0, 1), 0);
        for (int what = 2; what < 6; what++) {
            check.due("now(" + what + ")", x.now(what), 0);
        }
        check.due("count(2)", x.count(2), 0);
        check.due("days(400)", x.days(400), 0);
        check.due("a new one is the first", x.thing(1, 1), 0);
    }

    private static void status() {
        TideLoans x = check.fresh();
        x.thing(9, 0);
        x.write(0, 0, 0);
        x.sheet(0, 8, -1);
        x.undo();
        x.days(0);
        x.thing(1, 0);
        x.as(0, 2);
        x.fetch(0);
        for (int i = 0; i < 10; i++) {
            x.thing(0, 0);
        }
        int[] want = {2, 1, 1, 1, 1, 1, 1};
        for (int i = 0; i < 7; i++) {
            check.due("status(" + i + ")", x.status(i), want[i]);
        }
        check.due("status(-1)", x.status(-1), 8);
        check.due("status(7)", x.status(7), Check.BEYOND);
        check.due("it is counted", x.status(0), 3);
        check.due("status(-2)", x.status(-2), Check.BEYOND);
        check.due("so is that", x.status(-1), 10);
        check.due("asking counts nothing", x.status(-1), 10);
        x.image();
        check.due("one more", x.status(7), Check.BEYOND);
        x.undo();
        check.due("undo() takes none back", x.status(0), 5);
        x.tear();
        check.due("nor does tear()", x.status(-1), 11);
        check.due("undo() of nothing", x.undo(), Check.NONE);
        check.due("is one more NONE", x.status(3), 2);
        check.due("no finding of a fault", x.shore(), -1);
        check.due("is counted", x.status(-1), 12);
    }
}
