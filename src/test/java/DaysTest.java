/** Promises 14 to 19: days, now, on, taken, home, due. */
public final class DaysTest {
    private static final Check check = new Check("DaysTest");

    public static void main(String[] args) {
        days();
        lastDays();
        now();
        on();
        taken();
        takenOnThatDay();
        home();
        homeAtOnce();
        terms();
        fullPurses();
        due();
        dueToday();
        check.end();
    }

    private static void days() {
        TideLoans x = check.fresh();
        check.found(x, "days(0)", x.days(0), Check.BEYOND);
        check.found(x, "days(-1)", x.days(-1), Check.BEYOND);
        check.found(x, "days(401)", x.days(401), Check.BEYOND);
        for (int f = 0; f < 4; f++) {
            x.purse(f, 999999999);
        }
        check.due("days(1) as a long", x.days(1), 3999999996L);
        check.due("days(400) as a long", x.days(400), 3999999996L);
        check.due("now(0)", x.now(0), 401);
        x.purse(1, 999999990);
        x.thing(4, 1);
        x.set(0, 3, 9999);
        x.lay(0, 0);
        check.due("a purse has 999999999 at most", x.days(400), 3999999996L);
    }

    private static void lastDays() {
        TideLoans x = check.fresh();
        x.thing(2, 3);
        for (int i = 0; i < 249; i++) {
            x.days(400);
        }
        check.found(x, "days(400) from 99600", x.days(400), Check.STATE);
        check.found(x, "days(401) from 99600", x.days(401), Check.BEYOND);
        check.due("days(399)", x.days(399), 0);
        check.due("now(0)", x.now(0), 99999);
        check.found(x, "days(1) from 99999", x.days(1), Check.STATE);
        x.lay(0, 0);
        check.due("taken(0) on the last day", x.taken(0), 1);
        check.due("home(0) on the last day", x.home(0), 100002 - 99999 + 1);
        check.due("on(3, 400) on the last day", x.on(3, 400), 5);
        check.due("due() on the last day", x.due(), 1);
    }

    private static void now() {
        TideLoans x = check.fresh();
        for (int k = 0; k < 6; k++) {
            x.thing(k, 0);
            x.set(k, 3, 100 + k);
        }
        x.lay(0, 9);
        x.lay(1, 3);
        x.lay(2, 9);
        x.lay(4, 5);
        x.days(3);
        check.due("now(0)", x.now(0), 3);
        check.due("now(1)", x.now(1), 2);
        check.due("now(2)", x.now(2), 1);
        check.due("now(3)", x.now(3), 22);
        int owed = 101 + 4 + 5 + (102 + 6) / 2 + 2 * (104 + 4 + 5);
        check.due("now(4)", x.now(4), owed);
        check.due("now(5)", x.now(5), 615);
        check.found(x, "now(6)", x.now(6), Check.BEYOND);
        check.found(x, "now(-1)", x.now(-1), Check.BEYOND);
    }

    private static void on() {
        TideLoans x = check.fresh();
        x.thing(0, 1);
        x.set(0, 3, 100);
        x.lay(0, 0);
        check.due("on(1, 14)", x.on(1, 14), 0);
        check.due("on(1, 15)", x.on(1, 15), 128);
        check.due("on(1, 400)", x.on(1, 400), 128);
        check.due("on(0, 400)", x.on(0, 400), 0);
        check.due("nothing has changed", x.now(2), 1);
        x.purse(1, 999999900);
        check.due("on(1, 15) with a full purse", x.on(1, 15), 999999999);
        check.found(x, "on(1, 401)", x.on(1, 401), Check.BEYOND);
        check.found(x, "on(1, -1)", x.on(1, -1), Check.BEYOND);
        check.found(x, "on(4, 0)", x.on(4, 0), Check.BEYOND);
        check.found(x, "on(-1, 0)", x.on(-1, 0), Check.BEYOND);
    }

    /** In how many days each kind is taken, from day 1 on, from heights 7, 8 and 9. */
    private static void taken() {
        long none = Check.NONE;
        long[][] want = {{1, 14, none}, {1, none, none}, {1, 1, 14}, {1, 14, none}, {1, none, none}, {14, 14, 14}};
        for (int k = 0; k < 6; k++) {
            TideLoans x = check.fresh();
            x.thing(k, 0);
            check.found(x, "taken(0) at home", x.taken(0), Check.STATE);
            check.found(x, "taken(1)", x.taken(1), Check.BEYOND);
            check.found(x, "taken(-1)", x.taken(-1), Check.BEYOND);
            x.days(1);
            for (int h = 7; h <= 9; h++) {
                x.lay(0, h);
                String call = "taken(0) of kind " + k + " at " + h;
                if (want[k][h - 7] == none) {
                    check.found(x, call, x.taken(0), none);
                } else {
                    check.due(call, x.taken(0), want[k][h - 7]);
                }
            }
            x.lay(0, 0);
            x.days(20);
            check.found(x, "taken(0) lent or home", x.taken(0), Check.STATE);
        }
    }

    /** Up to the day on which it is taken it lies there, from each day of the tide and each height. */
    private static void takenOnThatDay() {
        for (int from = 1; from <= 14; from++) {
            for (int k = 0; k < 6; k++) {
                for (int h = 0; h < 9; h++) {
                    takenOnThatDay(from, k, h);
                }
            }
        }
    }

    private static void takenOnThatDay(int from, int kind, int height) {
        TideLoans x = check.fresh();
        x.thing(kind, 0);
        x.days(from);
        x.lay(0, height);
        int in = firstTaken(kind, height, from) - from + 1;
        String told = "kind " + kind + " at " + height + " from day " + from;
        if (in > 14) {
            check.found(x, "taken(0) of " + told, x.taken(0), Check.NONE);
            x.days(400);
            check.due("of(0, 4) of " + told + " for ever", x.of(0, 4), 1);
            return;
        }
        check.due("taken(0) of " + told, x.taken(0), in);
        if (in > 1) {
            x.days(in - 1);
        }
        check.due("of(0, 4) the day before of " + told, x.of(0, 4), 1);
        check.due("of(0, 5) the day before of " + told, x.of(0, 5), 0);
        check.due("taken(0) then of " + told, x.taken(0), 1);
        x.days(1);
        check.due("of(0, 4) that day of " + told, x.of(0, 4), 2);
        check.due("of(0, 5) that day of " + told, x.of(0, 5), from + in - 1);
    }

    private static int firstTaken(int kind, int height, int from) {
        int day = from;
        while (day < from + 14) {
            int off = Math.min(day % 14, 14 - day % 14);
            boolean below = kind == 2 || kind == 5 ? height <= 9 - off : height < 9 - off;
            boolean today = kind == 1 || kind == 4 ? off > 0 : kind != 5 || off == 0;
            if (below && today) {
                return day;
            }
            day++;
        }
        return day;
    }

    /** In how many days each kind comes home that is laid at the bottom on day 1, and 10 days later. */
    private static void home() {
        int[] laid = {14, 14, 14, 42, 28, 28 + 14};
        int[] later = {4, 4, 4, 32, 18, 32};
        for (int k = 0; k < 6; k++) {
            TideLoans x = check.fresh();
            x.thing(k, 0);
            check.found(x, "home(0) at home", x.home(0), Check.STATE);
            check.found(x, "home(1)", x.home(1), Check.BEYOND);
            check.found(x, "home(-1)", x.home(-1), Check.BEYOND);
            x.days(1);
            x.lay(0, 0);
            check.due("home(0) of kind " + k, x.home(0), laid[k]);
            x.days(10);
            check.due("home(0) of kind " + k + " later", x.home(0), later[k]);
            x.days(later[k] - 1);
            check.due("the day before", x.of(0, 4), 2);
            x.days(1);
            check.due("that day", x.of(0, 4), 0);
        }
        TideLoans x = check.fresh();
        x.thing(0, 0);
        x.lay(0, 9);
        check.found(x, "home(0) never taken", x.home(0), Check.NONE);
    }

    private static void homeAtOnce() {
        TideLoans x = check.fresh();
        x.thing(0, 0);
        x.lay(0, 0);
        x.days(14);
        check.due("home(0) on the spring", x.home(0), 1);
        check.due("now(4) with the first one lent", x.now(4), 12);
    }

    /** Lent for just its TERM on a spring it comes home; for a day less, on the next one. */
    private static void terms() {
        int[] terms = {1, 8, 1, 28, 16, 15};
        for (int k = 0; k < 6; k++) {
            term(k, 42 - terms[k], 42);
            term(k, 42 - terms[k] + 1, 56);
        }
    }

    private static void term(int kind, int since, int back) {
        TideLoans x = check.fresh();
        String told = "kind " + kind + " lent on " + since;
        x.thing(0, 0);
        x.days(since);
        x.lay(0, 0);
        x.days(1);
        x.turn(0, kind);
        check.due(told + " since", x.of(0, 5), since);
        check.due(told + " home(0)", x.home(0), back - since);
        int left = back - since - 1;
        if (left > 0) {
            x.days(left);
        }
        check.due(told + " on the day before", x.of(0, 4), 2);
        check.due(told + " due()", x.due(), 1);
        x.days(1);
        check.due(told + " on that day", x.of(0, 4), 0);
        check.due(told + " keeps since", x.of(0, 5), since);
    }

    /** Two that come on one day, of which the first just fills the purse, or all but 1 of it. */
    private static void fullPurses() {
        int[] before = {999999999 - 24, 999999999 - 25, 999999999 - 12, 999999999};
        int[] behind = {999999999, 999999998, 999999999, 999999999};
        for (int i = 0; i < before.length; i++) {
            TideLoans x = check.fresh();
            x.purse(3, before[i]);
            for (int t = 0; t < 2; t++) {
                x.thing(0, 3);
                x.lay(t, 0);
            }
            check.due("on(3, 15) from " + before[i], x.on(3, 15), behind[i]);
            check.due("days(15) from " + before[i], x.days(15), behind[i]);
            check.due("on(3, 0) from " + before[i], x.on(3, 0), behind[i]);
            check.due("both are home", x.count(2), 2);
        }
    }

    /** On a spring due() tells of this very day, not of the next spring; what is taken on it isn't due. */
    private static void dueToday() {
        TideLoans x = check.fresh();
        x.thing(0, 0);
        x.thing(0, 0);
        x.thing(0, 0);
        check.due("nothing is due of what is home", x.due(), 0);
        x.days(13);
        x.lay(0, 0);
        x.lay(2, 9);
        check.due("taken today, due tomorrow", x.due(), 1);
        x.days(1);
        x.lay(1, 0);
        check.due("due today, and none that is taken today", x.due(), 1);
        x.days(1);
        check.due("due in 13 days", x.due(), 2);
    }

    private static void due() {
        TideLoans x = check.fresh();
        for (int k = 0; k < 6; k++) {
            x.thing(k, 0);
            x.lay(k, 0);
        }
        check.due("due() on day 0", x.due(), 0);
        x.fetch(1);
        x.days(1);
        check.due("due() on day 1", x.due(), 5);
        x.days(5);
        x.lay(1, 0);
        check.due("due() with a named one laid just in time", x.due(), 7);
        x.fetch(1);
        x.days(1);
        x.lay(1, 0);
        check.due("due() with a named one laid too late", x.due(), 5);
        x.days(7);
        check.due("due() on the spring", x.due(), 5);
        x.days(1);
        check.due("due() behind the spring", x.due(), 2 + 8 + 16 + 32);
    }
}
