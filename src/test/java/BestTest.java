/** Promises 20 to 26: spot, delay, kind, worth, richest, fewest, rate. */
public final class BestTest {
    private static final Check check = new Check("BestTest");

    public static void main(String[] args) {
        spot();
        spotOnASpring();
        delay();
        kind();
        worth();
        richest();
        fewest();
        fewestAtSea();
        rate();
        theMostThatMayBeAsked();
        ties();
        check.end();
    }

    private static TideLoans chairOf100() {
        TideLoans x = check.fresh();
        x.thing(0, 0);
        x.set(0, 3, 100);
        return x;
    }

    private static void spot() {
        TideLoans x = chairOf100();
        x.days(1);
        check.due("every low cell is as good", x.spot(0, 14), 0);
        for (int c = 0; c < 16; c++) {
            x.height(c, 9);
        }
        check.due("no cell brings anything", x.spot(0, 100), 0);
        x.height(3, 3);
        x.height(5, 8);
        check.due("earlier is longer", x.spot(0, 14), 3);
        check.due("longer waits bring more", x.spot(0, 100), 5);
        check.due("it isn't back in 27 days", x.spot(0, 27), 3);
        check.due("it is back in 28 days", x.spot(0, 28), 5);
        x.lay(0, 7);
        check.due("laid elsewhere", x.spot(0, 14), 3);
        check.due("it still lies there", x.cell(7, 1), 1);
        x.purse(0, 999999998);
        check.due("a purse that is full soon", x.spot(0, 100), 3);
        check.found(x, "spot(0, 0)", x.spot(0, 0), Check.BEYOND);
        check.found(x, "spot(0, 101)", x.spot(0, 101), Check.BEYOND);
        check.found(x, "spot(1, 1)", x.spot(1, 1), Check.BEYOND);
        check.found(x, "spot(-1, 1)", x.spot(-1, 1), Check.BEYOND);
        x.lay(0, 3);
        x.days(1);
        check.found(x, "spot(0, 1) lent", x.spot(0, 1), Check.STATE);
        check.found(x, "spot(0, 101) lent", x.spot(0, 101), Check.BEYOND);
    }

    private static void spotOnASpring() {
        TideLoans x = chairOf100();
        for (int c = 0; c < 16; c++) {
            x.height(c, c == 5 ? 8 : 9);
        }
        check.due("taken on this very day", x.spot(0, 15), 5);
        x.days(1);
        check.due("not before the next spring", x.spot(0, 15), 0);
        check.due("spot(0, 1)", x.spot(0, 1), 0);
    }

    private static void delay() {
        TideLoans x = chairOf100();
        x.thing(3, 0);
        x.days(14);
        check.due("a chair at once", x.delay(0, 0, 60), 0);
        check.due("moonless not on day 14", x.delay(1, 0, 60), 1);
        check.due("moonless in 29 days", x.delay(1, 0, 29), 0);
        check.due("moonless in 43 days", x.delay(1, 0, 43), 1);
        x.lay(1, 0);
        check.due("laid today, it isn't taken today: it is home till then", x.delay(1, 0, 43), 1);
        check.due("it lies there all the same", x.taken(1), 1);
        x.fetch(1);
        x.days(1);
        check.due("a chair for a short while", x.delay(0, 0, 14), 0);
        x.height(8, 8);
        check.due("a chair at 8 waits anyway", x.delay(0, 8, 28), 0);
        check.due("never back", x.delay(0, 8, 27), 0);
        x.lay(1, 4);
        check.due("one that is laid is home till then", x.delay(1, 0, 60), 0);
        check.found(x, "delay(0, 0, 0)", x.delay(0, 0, 0), Check.BEYOND);
        check.found(x, "delay(0, 0, 61)", x.delay(0, 0, 61), Check.BEYOND);
        check.found(x, "delay(0, 16, 1)", x.delay(0, 16, 1), Check.BEYOND);
        check.found(x, "delay(0, -1, 1)", x.delay(0, -1, 1), Check.BEYOND);
        check.found(x, "delay(2, 0, 1)", x.delay(2, 0, 1), Check.BEYOND);
        check.found(x, "delay(-1, 0, 1)", x.delay(-1, 0, 1), Check.BEYOND);
        x.lay(0, 0);
        x.days(1);
        check.found(x, "delay(0, 0, 1) lent", x.delay(0, 0, 1), Check.STATE);
        check.found(x, "delay(0, 0, 61) lent", x.delay(0, 0, 61), Check.BEYOND);
    }

    private static void kind() {
        TideLoans x = chairOf100();
        check.due("at home all are alike", x.kind(0, 100), 0);
        x.lay(0, 0);
        check.due("kind(0, 1)", x.kind(0, 1), 0);
        check.due("kind(0, 14)", x.kind(0, 14), 0);
        check.due("kind(0, 15)", x.kind(0, 15), 1);
        check.due("kind(0, 28)", x.kind(0, 28), 1);
        check.due("kind(0, 29)", x.kind(0, 29), 4);
        x.purse(0, 999999999);
        check.due("nothing more goes into a full purse", x.kind(0, 29), 0);
        x.purse(0, 0);
        x.lay(0, 9);
        check.due("only grudges and glass go from 9", x.kind(0, 15), 2);
        check.due("glass is more than a grudge", x.kind(0, 29), 5);
        x.thing(0, 1);
        x.lay(1, 0);
        x.days(10);
        x.kind(1, 50);
        x.lay(0, 0);
        x.days(1);
        check.due("lent on day 10, too late for a named one", x.kind(0, 17), 0);
        check.due("lent on day 10, for longer", x.kind(0, 18), 4);
        x.days(18);
        x.lay(0, 0);
        x.days(10);
        check.due("lent, it is tried too", x.kind(0, 4), 1);
        check.due("lent, for longer", x.kind(0, 100), 4);
        check.due("it is what it was", x.of(0, 0), 0);
        check.found(x, "kind(0, 0)", x.kind(0, 0), Check.BEYOND);
        check.found(x, "kind(0, 101)", x.kind(0, 101), Check.BEYOND);
        check.found(x, "kind(2, 1)", x.kind(2, 1), Check.BEYOND);
        check.found(x, "kind(-1, 1)", x.kind(-1, 1), Check.BEYOND);
    }

    private static void worth() {
        TideLoans x = chairOf100();
        check.due("worth(0, 1, 0)", x.worth(0, 1, 0), 0);
        check.found(x, "worth(0, 40, 1) at home", x.worth(0, 40, 1), Check.NONE);
        x.lay(0, 0);
        check.due("worth(0, 15, 128)", x.worth(0, 15, 128), 100);
        check.due("worth(0, 15, 127)", x.worth(0, 15, 127), 100);
        check.due("worth(0, 15, 126)", x.worth(0, 15, 126), 99);
        check.due("worth(0, 40, 1278)", x.worth(0, 40, 1278), 999);
        check.found(x, "worth(0, 40, 1279)", x.worth(0, 40, 1279), Check.NONE);
        check.found(x, "worth(0, 14, 1)", x.worth(0, 14, 1), Check.NONE);
        x.purse(0, 50);
        check.due("with a purse of 50", x.worth(0, 15, 178), 100);
        x.thing(0, 0);
        x.lay(1, 0);
        check.due("with another one", x.worth(0, 15, 190), 100);
        x.set(1, 1, 1);
        check.due("with another one's other one", x.worth(0, 15, 178), 100);
        x.days(3);
        check.due("lent", x.worth(0, 12, 178), 100);
        check.due("it is worth what it was", x.of(0, 3), 100);
        check.found(x, "worth(0, 0, 0)", x.worth(0, 0, 0), Check.BEYOND);
        check.found(x, "worth(0, 41, 0)", x.worth(0, 41, 0), Check.BEYOND);
        check.found(x, "worth(0, 1, -1)", x.worth(0, 1, -1), Check.BEYOND);
        check.found(x, "worth(0, 1, 1000000000)", x.worth(0, 1, 1000000000), Check.BEYOND);
        check.found(x, "worth(2, 1, 0)", x.worth(2, 1, 0), Check.BEYOND);
        check.found(x, "worth(-1, 1, 0)", x.worth(-1, 1, 0), Check.BEYOND);
    }

    private static void richest() {
        TideLoans x = check.fresh();
        check.due("all are alike", x.richest(400), 0);
        x.thing(0, 3);
        x.lay(0, 0);
        check.due("richest(14)", x.richest(14), 0);
        check.due("richest(15)", x.richest(15), 3);
        x.purse(2, 12);
        check.due("richest(0)", x.richest(0), 2);
        check.due("as rich as another", x.richest(15), 2);
        x.purse(2, 11);
        check.due("richer by 1", x.richest(15), 3);
        check.found(x, "richest(-1)", x.richest(-1), Check.BEYOND);
        check.found(x, "richest(401)", x.richest(401), Check.BEYOND);
    }

    private static void fewest() {
        TideLoans x = check.fresh();
        int[] worths = {100, 50, 200, 150, 300, 250};
        for (int i = 0; i < 6; i++) {
            x.thing(0, i == 4 ? 1 : 2);
            x.set(i, 3, worths[i]);
        }
        x.interest(0);
        check.due("nothing is asked", x.fewest(2, 40, 0), 0);
        check.due("nothing is asked of a day", x.fewest(2, 1, 0), 0);
        check.found(x, "nothing is laid", x.fewest(2, 40, 1), Check.NONE);
        for (int i = 0; i < 5; i++) {
            x.lay(i, 0);
        }
        check.due("one, the least", x.fewest(2, 15, 100), 1);
        check.due("one, the only one", x.fewest(2, 15, 200), 4);
        check.due("two, the least", x.fewest(2, 15, 250), 5);
        check.due("two, the only ones", x.fewest(2, 15, 350), 12);
        check.due("three, the least", x.fewest(2, 15, 351), 13);
        check.due("all", x.fewest(2, 15, 500), 15);
        check.found(x, "not even with all", x.fewest(2, 15, 501), Check.NONE);
        check.found(x, "too early", x.fewest(2, 14, 1), Check.NONE);
        check.due("another family's", x.fewest(1, 40, 300), 16);
        x.purse(2, 400);
        check.due("with a purse", x.fewest(2, 15, 501), 4);
        check.due("they lie as they lay", x.now(2), 31);
        x.purse(2, 0);
        x.set(0, 3, 1);
        check.due("one that brings 1", x.fewest(2, 15, 351), 13);
        check.found(x, "fewest(4, 1, 0)", x.fewest(4, 1, 0), Check.BEYOND);
        check.found(x, "fewest(-1, 1, 0)", x.fewest(-1, 1, 0), Check.BEYOND);
        check.found(x, "fewest(0, 0, 0)", x.fewest(0, 0, 0), Check.BEYOND);
        check.found(x, "fewest(0, 41, 0)", x.fewest(0, 41, 0), Check.BEYOND);
        check.found(x, "fewest(0, 1, -1)", x.fewest(0, 1, -1), Check.BEYOND);
        check.found(x, "fewest(0, 1, 1000000000)", x.fewest(0, 1, 1000000000), Check.BEYOND);
    }

    /** Only those that are laid may be left out: one at sea comes home all the same. */
    private static void fewestAtSea() {
        TideLoans x = chairOf100();
        x.interest(0);
        x.lay(0, 0);
        x.days(1);
        x.thing(0, 0);
        x.lay(1, 0);
        check.due("one at sea is enough", x.fewest(0, 14, 100), 0);
        check.due("one at sea and one laid", x.fewest(0, 14, 110), 2);
        check.found(x, "not even with both", x.fewest(0, 14, 111), Check.NONE);
    }

    /** Each number just at its bound is answered, and no finding. */
    private static void theMostThatMayBeAsked() {
        TideLoans x = chairOf100();
        int most = 999999999;
        check.due("spot(0, 1)", x.spot(0, 1), 0);
        check.due("spot(0, 100)", x.spot(0, 100), 0);
        check.due("delay(0, 15, 1)", x.delay(0, 15, 1), 0);
        check.due("delay(0, 0, 60)", x.delay(0, 0, 60), 0);
        check.due("kind(0, 1)", x.kind(0, 1), 0);
        check.due("richest(0)", x.richest(0), 0);
        check.due("richest(400)", x.richest(400), 0);
        x.purse(0, most);
        check.due("worth(0, 1, most)", x.worth(0, 1, most), 0);
        check.due("worth(0, 40, most)", x.worth(0, 40, most), 0);
        check.due("fewest(0, 1, most)", x.fewest(0, 1, most), 0);
        check.due("fewest(0, 40, most)", x.fewest(0, 40, most), 0);
        check.due("rate(1, 0)", x.rate(1, 0), 0);
        check.due("rate(100, 0)", x.rate(100, 0), 0);
        check.due("no finding", x.status(-1), 0);
        check.found(x, "rate(100, most)", x.rate(100, most), Check.NONE);
        check.found(x, "rate(1, most)", x.rate(1, most), Check.NONE);
        x.purse(0, most - 1);
        check.found(x, "worth(0, 40, most) with 1 less", x.worth(0, 40, most), Check.NONE);
        check.found(x, "fewest(0, 40, most) with 1 less", x.fewest(0, 40, most), Check.NONE);
        x.lay(0, 0);
        check.due("worth 1 fills the purse", x.worth(0, 40, most), 1);
        check.due("the chair fills the purse", x.fewest(0, 40, most), 1);
        check.due("a gain of 1 fits", x.rate(40, 1), 0);
        check.found(x, "a gain of 2 doesn't", x.rate(40, 2), Check.NONE);
    }

    /** Of several the least: cells, days, kinds and families that bring as much. */
    private static void ties() {
        TideLoans x = chairOf100();
        for (int c = 0; c < 16; c++) {
            x.height(c, c == 6 || c == 11 ? 4 : 9);
        }
        check.due("the lesser of two cells", x.spot(0, 15), 6);
        x.days(1);
        x.interest(0);
        check.due("without interest no day is better", x.delay(0, 6, 14), 0);
        x.interest(2);
        x.height(6, 8);
        x.height(11, 8);
        check.due("the lesser of two cells at 8", x.spot(0, 28), 6);
        x.lay(0, 6);
        check.due("none is back by day 13", x.kind(0, 13), 0);
        check.due("a grudge is back on day 14", x.kind(0, 14), 2);
        check.due("a chair isn't before day 28", x.kind(0, 27), 2);
        check.due("a chair brings more by then", x.kind(0, 28), 0);
        for (int f = 1; f < 4; f++) {
            x.purse(f, 999999999);
        }
        check.due("the least of three", x.richest(400), 1);
        x.purse(0, 999999999);
        check.due("the least of four", x.richest(400), 0);
        x.purse(0, 999999999 - 100);
        check.due("one that is as full by then", x.richest(28), 0);
        check.due("and isn't a day before", x.richest(27), 1);
    }

    private static void rate() {
        TideLoans x = chairOf100();
        check.due("rate(1, 0)", x.rate(1, 0), 0);
        check.found(x, "rate(100, 1) at home", x.rate(100, 1), Check.NONE);
        x.lay(0, 0);
        check.due("rate(15, 100)", x.rate(15, 100), 0);
        check.due("rate(15, 101)", x.rate(15, 101), 1);
        check.due("rate(15, 114)", x.rate(15, 114), 1);
        check.due("rate(15, 115)", x.rate(15, 115), 2);
        check.due("rate(15, 800)", x.rate(15, 800), 50);
        check.found(x, "rate(15, 801)", x.rate(15, 801), Check.NONE);
        check.found(x, "rate(14, 1)", x.rate(14, 1), Check.NONE);
        x.purse(0, 1000);
        check.due("what there is is no gain", x.rate(15, 115), 2);
        x.thing(0, 3);
        x.lay(1, 0);
        check.due("gain of all", x.rate(15, 129), 2);
        x.purse(0, 999999999);
        check.found(x, "a full purse gains nothing", x.rate(15, 100), Check.NONE);
        check.due("now(1)", x.now(1), 2);
        check.found(x, "rate(0, 0)", x.rate(0, 0), Check.BEYOND);
        check.found(x, "rate(101, 0)", x.rate(101, 0), Check.BEYOND);
        check.found(x, "rate(1, -1)", x.rate(1, -1), Check.BEYOND);
        check.found(x, "rate(1, 1000000000)", x.rate(1, 1000000000), Check.BEYOND);
    }
}
