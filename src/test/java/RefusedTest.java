/**
 * Promises 1 to 40, by the sentences under 'Terms': each act tells its findings in the order in which they are asked,
 * one that answers a finding changes nothing but status(), and ON changes nothing at all.
 */
public final class RefusedTest {
    private interface Act {
        long on(TideLoans x);
    }

    private static final int FULL_TAPE = 118;
    /** Things of the shore that is asked: what is LENT, LAID in vain, LAID and HOME. */
    private static final int LENT = 0;
    private static final int VAIN = 1;
    private static final int HOME = 9;
    /** Just beside what may be, on both sides, and far off. */
    private static final int[] FAR = {Integer.MIN_VALUE, Integer.MAX_VALUE};

    private static final Check check = new Check("RefusedTest");

    public static void main(String[] args) {
        shoreRefuses();
        thingsRefuse();
        daysRefuse();
        bestRefuses();
        gainRefuses();
        textRefuses();
        sheetsRefuse();
        readersRefuse();
        imagesRefuse();
        farOff();
        nothingKept();
        lastDay();
        looksChangeNothing();
        check.end();
    }

    /** Ten things on day 3, an image of day 0, sheets of 8, 16 and 64 bits (the 4th is missing), 118 bytes. */
    private static TideLoans rich() {
        TideLoans x = check.fresh();
        x.image();
        for (int i = 0; i < 10; i++) {
            x.thing(i % 6, i % 4);
        }
        x.lay(LENT, 5);
        x.days(3);
        x.turn(VAIN, 0);
        x.lay(VAIN, 9);
        x.lay(2, 4);
        x.purse(2, 77);
        x.height(15, 8);
        x.interest(11);
        for (int s = 0; s < 3; s++) {
            x.sheet(s, 8 << (s == 2 ? 3 : s), 2);
            x.write(s, 0, 5 + s);
            x.write(s, 1, -s);
        }
        x.feed('i' << 24 | 'n' << 16 | 't' << 8 | 'e', 4);
        x.feed('r' << 24 | 'e' << 16 | 's' << 8 | 't', 4);
        x.feed(' ' << 8 | '7', 2);
        for (int i = 10; i < FULL_TAPE; i += 4) {
            x.feed(0x20202020, 4);
        }
        return x;
    }

    /** All that calls can show without changing it, but for status(). */
    private static String told(TideLoans x) {
        StringBuilder all = new StringBuilder();
        for (int what = 0; what < 6; what++) {
            all.append(x.now(what)).append(' ');
        }
        for (int f = 0; f < 4; f++) {
            all.append(x.on(f, 0)).append(' ');
        }
        for (int c = 0; c < 16; c++) {
            all.append(x.cell(c, 0)).append(' ');
        }
        for (int i = 0; i < x.count(0); i++) {
            for (int what = 0; what < 6; what++) {
                all.append(x.of(i, what)).append(' ');
            }
        }
        return all.append(x.count(1)).toString();
    }

    private static void refuses(long finding, String call, Act act) {
        TideLoans x = rich();
        String before = told(x);
        check.found(x, call, act.on(x), finding);
        same(x, call, before);
    }

    /** Sheets, tape and image, too, are as rich() left them; this changes them. */
    private static void same(TideLoans x, String call, String before) {
        check.due(call + " left all as it was", told(x).equals(before) ? 1 : 0, 1);
        for (int s = 0; s < 3; s++) {
            check.due(call + " left number 0 of sheet " + s, x.write(s, 0, 0), 5 + s);
            check.due(call + " left number 1 of sheet " + s, x.write(s, 1, 0), -s);
            check.due(call + " left the length of sheet " + s, x.write(s, 2, 0), Check.BEYOND);
        }
        check.due(call + " left a sheet missing", x.lays(3), Check.MISSING);
        check.due(call + " left the tape", x.shore(), 1);
        check.due(call + " left what it tells", x.now(1), 7);
        check.due(call + " left the image", x.undo(), 0);
        check.due(call + " left the day of the image", x.now(0), 0);
    }

    private static void beyond(String call, Act act) {
        refuses(Check.BEYOND, call, act);
    }

    private static void shoreRefuses() {
        beyond("height(-1, 0)", x -> x.height(-1, 0));
        beyond("height(16, 0)", x -> x.height(16, 0));
        beyond("height(0, -1)", x -> x.height(0, -1));
        beyond("height(0, 10)", x -> x.height(0, 10));
        beyond("cell(16, 0)", x -> x.cell(16, 0));
        beyond("cell(0, 2)", x -> x.cell(0, 2));
        beyond("interest(-1)", x -> x.interest(-1));
        beyond("interest(51)", x -> x.interest(51));
        beyond("tide(-1, 0)", x -> x.tide(-1, 0));
        beyond("tide(100000, 0)", x -> x.tide(100000, 0));
        beyond("tide(0, 4)", x -> x.tide(0, 4));
        beyond("purse(-1, 5)", x -> x.purse(-1, 5));
        beyond("purse(4, 5)", x -> x.purse(4, 5));
        beyond("purse(0, -1)", x -> x.purse(0, -1));
        beyond("purse(0, 1000000000)", x -> x.purse(0, 1000000000));
    }

    private static void thingsRefuse() {
        refuses(Check.FULL, "thing(0, 0)", x -> x.thing(0, 0));
        beyond("thing(6, 0), which is an 11th, too", x -> x.thing(6, 0));
        beyond("thing(0, 4), which is an 11th, too", x -> x.thing(0, 4));
        beyond("of(10, 0)", x -> x.of(10, 0));
        beyond("of(0, 8)", x -> x.of(0, 8));
        beyond("set(10, 1, 0)", x -> x.set(10, 1, 0));
        beyond("set(0, 1, 4)", x -> x.set(0, 1, 4));
        beyond("set(0, 3, 10000)", x -> x.set(0, 3, 10000));
        beyond("set(0, 0, 1)", x -> x.set(0, 0, 1));
        beyond("set(0, 2, 1)", x -> x.set(0, 2, 1));
        beyond("set(0, 4, 1)", x -> x.set(0, 4, 1));
        beyond("set(0, 5, 1)", x -> x.set(0, 5, 1));
        beyond("turn(10, 1)", x -> x.turn(10, 1));
        beyond("turn(0, 6)", x -> x.turn(0, 6));
        beyond("as(10, 0)", x -> x.as(10, 0));
        beyond("as(0, 6), which it isn't, too", x -> x.as(0, 6));
        refuses(Check.KIND, "as(0, 5)", x -> x.as(0, 5));
        beyond("lay(10, 0)", x -> x.lay(10, 0));
        beyond("lay(HOME, 16)", x -> x.lay(HOME, 16));
        beyond("lay(LENT, 16), which is lent, too", x -> x.lay(LENT, 16));
        refuses(Check.STATE, "lay(LENT, 0)", x -> x.lay(LENT, 0));
        beyond("fetch(10)", x -> x.fetch(10));
        refuses(Check.STATE, "fetch(LENT)", x -> x.fetch(LENT));
        refuses(Check.STATE, "fetch(HOME)", x -> x.fetch(HOME));
    }

    private static void daysRefuse() {
        beyond("days(0)", x -> x.days(0));
        beyond("days(-1)", x -> x.days(-1));
        beyond("days(401)", x -> x.days(401));
        beyond("now(6)", x -> x.now(6));
        beyond("on(4, 0)", x -> x.on(4, 0));
        beyond("on(0, -1)", x -> x.on(0, -1));
        beyond("on(0, 401)", x -> x.on(0, 401));
        beyond("taken(10)", x -> x.taken(10));
        refuses(Check.STATE, "taken(LENT)", x -> x.taken(LENT));
        refuses(Check.STATE, "taken(HOME)", x -> x.taken(HOME));
        refuses(Check.NONE, "taken(VAIN)", x -> x.taken(VAIN));
        beyond("home(10)", x -> x.home(10));
        refuses(Check.STATE, "home(HOME)", x -> x.home(HOME));
        refuses(Check.NONE, "home(VAIN)", x -> x.home(VAIN));
    }

    private static void bestRefuses() {
        beyond("spot(10, 1)", x -> x.spot(10, 1));
        beyond("spot(HOME, 0)", x -> x.spot(HOME, 0));
        beyond("spot(LENT, 0), which is lent, too", x -> x.spot(LENT, 0));
        beyond("spot(LENT, 101), which is lent, too", x -> x.spot(LENT, 101));
        refuses(Check.STATE, "spot(LENT, 1)", x -> x.spot(LENT, 1));
        beyond("delay(10, 0, 1)", x -> x.delay(10, 0, 1));
        beyond("delay(LENT, 16, 1), which is lent, too", x -> x.delay(LENT, 16, 1));
        beyond("delay(LENT, 0, 0), which is lent, too", x -> x.delay(LENT, 0, 0));
        beyond("delay(LENT, 0, 61), which is lent, too", x -> x.delay(LENT, 0, 61));
        refuses(Check.STATE, "delay(LENT, 0, 1)", x -> x.delay(LENT, 0, 1));
        beyond("kind(10, 1)", x -> x.kind(10, 1));
        beyond("kind(0, 0)", x -> x.kind(0, 0));
        beyond("kind(0, 101)", x -> x.kind(0, 101));
        beyond("richest(-1)", x -> x.richest(-1));
        beyond("richest(401)", x -> x.richest(401));
    }

    /** Where nothing would be enough, what is asked beyond the bounds is BEYOND all the same. */
    private static void gainRefuses() {
        int most = 999999999;
        beyond("worth(10, 1, most)", x -> x.worth(10, 1, most));
        beyond("worth(0, 0, most)", x -> x.worth(0, 0, most));
        beyond("worth(0, 41, most)", x -> x.worth(0, 41, most));
        beyond("worth(0, 1, most + 1)", x -> x.worth(0, 1, most + 1));
        beyond("worth(0, 1, -1)", x -> x.worth(0, 1, -1));
        refuses(Check.NONE, "worth(0, 40, most)", x -> x.worth(0, 40, most));
        beyond("fewest(4, 1, most)", x -> x.fewest(4, 1, most));
        beyond("fewest(0, 0, most)", x -> x.fewest(0, 0, most));
        beyond("fewest(0, 41, most)", x -> x.fewest(0, 41, most));
        beyond("fewest(0, 1, most + 1)", x -> x.fewest(0, 1, most + 1));
        beyond("fewest(0, 1, -1)", x -> x.fewest(0, 1, -1));
        refuses(Check.NONE, "fewest(0, 40, most)", x -> x.fewest(0, 40, most));
        beyond("rate(0, most)", x -> x.rate(0, most));
        beyond("rate(101, most)", x -> x.rate(101, most));
        beyond("rate(1, most + 1)", x -> x.rate(1, most + 1));
        beyond("rate(1, -1)", x -> x.rate(1, -1));
        refuses(Check.NONE, "rate(100, most)", x -> x.rate(100, most));
    }

    private static void textRefuses() {
        beyond("feed(x, 0)", x -> x.feed('x', 0));
        beyond("feed(x, -1)", x -> x.feed('x', -1));
        beyond("feed(x, 5), for which there is no room, too", x -> x.feed('x', 5));
        refuses(Check.FULL, "feed(x, 3): not even the first 2 come", x -> x.feed('x' << 16, 3));
        refuses(Check.FULL, "feed(x, 4)", x -> x.feed('x' << 24, 4));
    }

    private static void sheetsRefuse() {
        beyond("sheet(-1, 8, -1)", x -> x.sheet(-1, 8, -1));
        beyond("sheet(4, 8, -1)", x -> x.sheet(4, 8, -1));
        beyond("sheet(4, 0, 0)", x -> x.sheet(4, 0, 0));
        for (int bits : new int[] {-1, 1, 7, 9, 15, 17, 32, 63, 65, 128}) {
            beyond("sheet(0, " + bits + ", -1)", x -> x.sheet(0, bits, -1));
            beyond("sheet(3, " + bits + ", 1)", x -> x.sheet(3, bits, 1));
        }
        for (int bits : new int[] {0, 8, 16, 64}) {
            refuses(Check.SIZE, "sheet(0, " + bits + ", -1)", x -> x.sheet(0, bits, -1));
            refuses(Check.SIZE, "sheet(3, " + bits + ", -1)", x -> x.sheet(3, bits, -1));
            beyond("sheet(0, " + bits + ", 41)", x -> x.sheet(0, bits, 41));
            beyond("sheet(3, " + bits + ", 41)", x -> x.sheet(3, bits, 41));
        }
        beyond("write(-1, 0, 1)", x -> x.write(-1, 0, 1));
        beyond("write(4, 0, 1)", x -> x.write(4, 0, 1));
        refuses(Check.MISSING, "write(3, -1, 1)", x -> x.write(3, -1, 1));
        refuses(Check.MISSING, "write(3, 0, 1)", x -> x.write(3, 0, 1));
        beyond("write(0, -1, 1)", x -> x.write(0, -1, 1));
        beyond("write(0, 2, 1)", x -> x.write(0, 2, 1));
        beyond("copy(4, 0, 3, 0, 1)", x -> x.copy(4, 0, 3, 0, 1));
        beyond("copy(3, 0, -1, 0, 1)", x -> x.copy(3, 0, -1, 0, 1));
        refuses(Check.MISSING, "copy(3, 0, 0, 0, -1)", x -> x.copy(3, 0, 0, 0, -1));
        refuses(Check.MISSING, "copy(0, 0, 3, 0, 0)", x -> x.copy(0, 0, 3, 0, 0));
        refuses(Check.MISSING, "copy(3, 0, 3, 0, 0)", x -> x.copy(3, 0, 3, 0, 0));
        refuses(Check.KIND, "copy(0, 0, 1, 0, 0)", x -> x.copy(0, 0, 1, 0, 0));
        refuses(Check.KIND, "copy(1, -1, 2, 0, 1)", x -> x.copy(1, -1, 2, 0, 1));
        refuses(Check.KIND, "copy(2, 0, 0, 0, 3)", x -> x.copy(2, 0, 0, 0, 3));
        beyond("copy(1, -1, 1, 0, 1)", x -> x.copy(1, -1, 1, 0, 1));
        beyond("copy(1, 0, 1, -1, 1)", x -> x.copy(1, 0, 1, -1, 1));
        beyond("copy(1, 0, 1, 0, -1)", x -> x.copy(1, 0, 1, 0, -1));
        beyond("copy(1, 1, 1, 0, 2): not even the one there is", x -> x.copy(1, 1, 1, 0, 2));
        beyond("copy(1, 0, 1, 1, 2): not even the one that fits", x -> x.copy(1, 0, 1, 1, 2));
        beyond("copy(1, 0, 1, 0, 3)", x -> x.copy(1, 0, 1, 0, 3));
        beyond("copy(1, 3, 1, 0, 0)", x -> x.copy(1, 3, 1, 0, 0));
        beyond("copy(1, 0, 1, 3, 0)", x -> x.copy(1, 0, 1, 3, 0));
    }

    private static void readersRefuse() {
        beyond("lays(-1)", x -> x.lays(-1));
        beyond("lays(4)", x -> x.lays(4));
        refuses(Check.MISSING, "lays(3)", x -> x.lays(3));
        beyond("book(4, 4)", x -> x.book(4, 4));
        refuses(Check.MISSING, "book(3, 4)", x -> x.book(3, 4));
        beyond("book(0, 4)", x -> x.book(0, 4));
        beyond("book(0, -1)", x -> x.book(0, -1));
        beyond("read(4, 0, LENT)", x -> x.read(4, 0, LENT));
        refuses(Check.MISSING, "read(3, 4, 10)", x -> x.read(3, 4, 10));
        refuses(Check.MISSING, "read(3, 0, LENT)", x -> x.read(3, 0, LENT));
        beyond("read(0, 4, LENT), which is lent, too", x -> x.read(0, 4, LENT));
        beyond("read(0, -1, HOME)", x -> x.read(0, -1, HOME));
        beyond("read(0, 0, 10)", x -> x.read(0, 0, 10));
        refuses(Check.STATE, "read(0, 0, LENT)", x -> x.read(0, 0, LENT));
    }

    private static void imagesRefuse() {
        beyond("count(4)", x -> x.count(4));
        beyond("count(-1)", x -> x.count(-1));
        beyond("status(7)", x -> x.status(7));
        beyond("status(-2)", x -> x.status(-2));
    }

    private static void farOff() {
        for (int v : FAR) {
            beyond("height(.., 1) by " + v, x -> x.height(v, 1));
            beyond("height(1, ..) by " + v, x -> x.height(1, v));
            beyond("interest by " + v, x -> x.interest(v));
            beyond("tide by " + v, x -> x.tide(v, 0));
            beyond("purse by " + v, x -> x.purse(0, v));
            beyond("of by " + v, x -> x.of(v, 0));
            beyond("lay by " + v, x -> x.lay(v, 0));
            beyond("days by " + v, x -> x.days(v));
            beyond("on by " + v, x -> x.on(0, v));
            beyond("spot by " + v, x -> x.spot(HOME, v));
            beyond("delay by " + v, x -> x.delay(HOME, 0, v));
            beyond("worth by " + v, x -> x.worth(HOME, 1, v));
            beyond("fewest by " + v, x -> x.fewest(0, 1, v));
            beyond("rate by " + v, x -> x.rate(v, 0));
            beyond("feed by " + v, x -> x.feed(0, v));
            beyond("sheet by " + v, x -> x.sheet(v, 8, 1));
            refuses(v < 0 ? Check.SIZE : Check.BEYOND, "sheet(0, 8, ..) by " + v, x -> x.sheet(0, 8, v));
            beyond("write by " + v, x -> x.write(0, v, 1));
            beyond("copy from by " + v, x -> x.copy(0, v, 0, 0, 1));
            beyond("copy to by " + v, x -> x.copy(0, 0, 0, v, 1));
            beyond("copy n by " + v, x -> x.copy(0, 1, 0, 1, v));
            beyond("copy from and n by " + v, x -> x.copy(0, v, 0, 0, v));
            beyond("copy to and n by " + v, x -> x.copy(0, 0, 0, v, v));
            beyond("read by " + v, x -> x.read(0, v, HOME));
            beyond("count by " + v, x -> x.count(v));
            beyond("status by " + v, x -> x.status(v));
        }
    }

    private static void nothingKept() {
        TideLoans x = rich();
        x.tear();
        String before = told(x);
        check.found(x, "undo() with nothing kept", x.undo(), Check.NONE);
        check.due("undo() with nothing kept left all as it was", told(x).equals(before) ? 1 : 0, 1);
    }

    private static void lastDay() {
        TideLoans x = check.fresh();
        for (int i = 0; i < 249; i++) {
            x.days(400);
        }
        x.days(396);
        x.thing(0, 2);
        x.lay(0, 0);
        String before = told(x);
        check.found(x, "days(4) from 99996", x.days(4), Check.STATE);
        check.due("not even one of the 4 went", told(x).equals(before) ? 1 : 0, 1);
        check.due("days(3) from 99996", x.days(3), 0);
        check.due("it is 99999", x.now(0), 99999);
        check.due("the thing went on 99996", x.of(0, 5), 99996);
        before = told(x);
        check.found(x, "days(1) from 99999", x.days(1), Check.STATE);
        check.found(x, "days(400) from 99999", x.days(400), Check.STATE);
        check.found(x, "days(401) from 99999", x.days(401), Check.BEYOND);
        check.found(x, "days(0) from 99999", x.days(0), Check.BEYOND);
        check.due("it still is 99999", told(x).equals(before) ? 1 : 0, 1);
    }

    private static void looks(String call, Act act) {
        TideLoans x = rich();
        String before = told(x);
        long answer = act.on(x);
        check.due(call + " answers the same again", act.on(x), answer);
        check.due(call + " is no finding", x.status(-1), 0);
        same(x, call, before);
    }

    /** Acts that only tell something, ON among them, leave all as it was. */
    private static void looksChangeNothing() {
        looks("cell(4, 1)", x -> x.cell(4, 1));
        looks("tide(5, 3)", x -> x.tide(5, 3));
        looks("of(LENT, 7)", x -> x.of(LENT, 7));
        looks("as(0, 0)", x -> x.as(0, 0));
        looks("now(4)", x -> x.now(4));
        looks("on(2, 400)", x -> x.on(2, 400));
        looks("taken(2)", x -> x.taken(2));
        looks("home(2)", x -> x.home(2));
        looks("home(LENT)", x -> x.home(LENT));
        looks("due()", x -> x.due());
        looks("spot(2, 100)", x -> x.spot(2, 100));
        looks("delay(2, 15, 60)", x -> x.delay(2, 15, 60));
        looks("kind(2, 100)", x -> x.kind(2, 100));
        looks("kind(LENT, 100)", x -> x.kind(LENT, 100));
        looks("worth(2, 40, 90)", x -> x.worth(2, 40, 90));
        looks("richest(400)", x -> x.richest(400));
        looks("fewest(2, 40, 80)", x -> x.fewest(2, 40, 80));
        looks("rate(100, 30)", x -> x.rate(100, 30));
        looks("read(2, 2, 2)", x -> x.read(2, 2, 2));
    }
}
