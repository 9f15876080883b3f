import java.util.Random;

/** All promises: runs of 512 calls, the same ones each time, answered as the plain model answers them. */
public final class ModelTest {
    private static final int RUNS = 300;
    private static final int CALLS = 512;
    private static final String[] WORDS = {"chair", "named", "grudge", "moonless", "twice", "glass", "of", "worth", "at",
        "height", "interest", ";", "0", "3", "4", "9", "15", "16", "50", "51", "9999", "10000", "?", "ofs"};

    private static final Check check = new Check("ModelTest");
    private final Random random;
    private final TideLoans x = new TideLoans();
    private final PlainModel model = new PlainModel();
    private final int run;

    private ModelTest(int run) {
        this.run = run;
        random = new Random(run);
    }

    public static void main(String[] args) {
        for (int run = 0; run < RUNS; run++) {
            new ModelTest(run).go();
        }
        check.end();
    }

    private void go() {
        int calls = 0;
        if (run % 10 == 9) {
            for (; calls < 249; calls++) {
                ask(12, 400, 0, 0, 0, 0, 0);
            }
        }
        while (calls < CALLS) {
            calls += random.nextInt(25) == 0 ? tell(CALLS - calls) : askAny(CALLS - calls);
        }
    }

    /** Mostly what may be, now and then just beside it or far off. */
    private int upTo(int least, int most) {
        int r = random.nextInt(40);
        if (r == 0) {
            return least - 1;
        }
        if (r == 1) {
            return most + 1;
        }
        if (r == 2) {
            return new int[] {Integer.MIN_VALUE, Integer.MAX_VALUE, -1, 0}[random.nextInt(4)];
        }
        return r < 6 ? most : r < 9 ? least : least + random.nextInt(most - least + 1);
    }

    private int money() {
        int[] most = {20, 300, 3000, 30000};
        int r = random.nextInt(6);
        return r < 4 ? random.nextInt(most[r]) : r == 4 ? 999999999 - random.nextInt(400) : upTo(0, 999999999);
    }

    private int aThing() {
        return random.nextInt(30) == 0 ? upTo(0, 9) : random.nextInt(1 + (int) model.call(38, 0, 0, 0, 0, 0, 0));
    }

    private int fewDays(int most) {
        return random.nextInt(3) == 0 ? upTo(1, Math.min(most, 30)) : upTo(1, most);
    }

    private int askAny(int calls) {
        // What lays things and lets few days go comes oftener, so that there is something at sea.
        int r = random.nextInt(60);
        int which = r < 40 ? r : r < 46 ? 10 : r < 50 ? 12 : r < 53 ? 5 : r < 55 ? 7 : r < 57 ? 34 : r == 57 ? 33 : 23;
        switch (which) {
            case 0: case 1: return ask(which, upTo(0, 15), which == 0 ? upTo(0, 9) : upTo(0, 1), 0, 0, 0, 0);
            case 2: return ask(which, upTo(0, 50), 0, 0, 0, 0, 0);
            case 3: return ask(which, upTo(0, 99999), upTo(0, 3), 0, 0, 0, 0);
            case 4: return ask(which, upTo(0, 3), money(), 0, 0, 0, 0);
            case 5: return ask(which, upTo(0, 5), upTo(0, 3), 0, 0, 0, 0);
            case 6: return ask(which, aThing(), upTo(0, 7), 0, 0, 0, 0);
            case 7: return random.nextBoolean() ? ask(which, aThing(), 1, upTo(0, 3), 0, 0, 0)
                : ask(which, aThing(), random.nextInt(9) == 0 ? upTo(0, 5) : 3, upTo(0, 9999), 0, 0, 0);
            case 8: case 9: return ask(which, aThing(), upTo(0, 5), 0, 0, 0, 0);
            case 10: return ask(which, aThing(), upTo(0, 15), 0, 0, 0, 0);
            case 11: case 15: case 16: return ask(which, aThing(), 0, 0, 0, 0, 0);
            case 12: return ask(which, random.nextInt(9) == 0 ? upTo(1, 400) : upTo(1, 9), 0, 0, 0, 0, 0);
            case 13: return ask(which, upTo(0, 5), 0, 0, 0, 0, 0);
            case 14: return ask(which, upTo(0, 3), random.nextBoolean() ? upTo(0, 400) : upTo(0, 40), 0, 0, 0, 0);
            case 18: case 20: return ask(which, aThing(), fewDays(100), 0, 0, 0, 0);
            case 19: return ask(which, aThing(), upTo(0, 15), fewDays(60), 0, 0, 0);
            case 21: return ask(which, aThing(), fewDays(40), money(), 0, 0, 0);
            case 22: return ask(which, random.nextBoolean() ? upTo(0, 400) : upTo(0, 40), 0, 0, 0, 0, 0);
            case 23: return ask(which, upTo(0, 3), fewDays(40), money(), 0, 0, 0);
            case 24: return ask(which, fewDays(100), money(), 0, 0, 0, 0);
            case 25: return ask(which, random.nextInt(), upTo(1, 4), 0, 0, 0, 0);
            case 28: return ask(which, upTo(0, 3), new int[] {0, 8, 16, 64, 16, 64, upTo(0, 64)}[random.nextInt(7)],
                upTo(0, 40), 0, 0, 0);
            case 29: return ask(which, upTo(0, 3), upTo(0, 39), 0, 0, 0, random.nextLong() >> random.nextInt(64));
            case 30: return ask(29, upTo(0, 3), upTo(0, 39), 0, 0, 0, random.nextInt(12));
            case 31: return ask(which, upTo(0, 3), upTo(0, 20), upTo(0, 3), upTo(0, 20), upTo(0, 20), 0);
            case 33: return ask(which, upTo(0, 3), upTo(0, 3), 0, 0, 0, 0);
            case 34: return random.nextInt(3) > 0 && calls >= 3 ? bookAndRead()
                : ask(which, upTo(0, 3), upTo(0, 3), aThing(), 0, 0, 0);
            case 32: return ask(which, upTo(0, 3), 0, 0, 0, 0, 0);
            case 38: return ask(which, upTo(0, 3), 0, 0, 0, 0, 0);
            case 39: return ask(which, upTo(-1, 6), 0, 0, 0, 0, 0);
            default: return ask(which, 0, 0, 0, 0, 0, 0);
        }
    }

    private int bookAndRead() {
        int s = random.nextInt(4);
        int family = random.nextInt(4);
        return ask(28, s, new int[] {8, 16, 64}[random.nextInt(3)], upTo(0, 40), 0, 0, 0)
            + ask(33, s, family, 0, 0, 0, 0)
            + ask(34, s, family, aThing(), 0, 0, 0);
    }

    /** Feeds a text of a shore, right or nearly so, and has it read. */
    private int tell(int calls) {
        StringBuilder text = new StringBuilder();
        int items = 1 + random.nextInt(4);
        for (int i = 0; i < items; i++) {
            text.append(i > 0 ? ";" : "").append(item());
        }
        if (random.nextInt(3) == 0) {
            int at = random.nextInt(text.length());
            text.replace(at, Math.min(text.length(), at + random.nextInt(4)), WORDS[random.nextInt(WORDS.length)]);
        }
        int done = random.nextInt(4) == 0 || calls < 2 ? 0 : ask(26, 0, 0, 0, 0, 0, 0);
        for (int at = 0; at < text.length() && done < calls - 1; at += 4) {
            int n = Math.min(4, text.length() - at);
            int bytes = random.nextInt(256);
            for (int i = 0; i < n; i++) {
                bytes = bytes << 8 | text.charAt(at + i);
            }
            done += ask(25, bytes, n, 0, 0, 0, 0);
        }
        return done + ask(27, 0, 0, 0, 0, 0, 0);
    }

    private String item() {
        int r = random.nextInt(5);
        if (r == 0) {
            return "height " + random.nextInt(17) + " " + random.nextInt(10);
        }
        if (r == 1) {
            return " interest " + random.nextInt(51);
        }
        return WORDS[random.nextInt(6)] + " of " + random.nextInt(4)
            + (random.nextBoolean() ? " worth " + random.nextInt(10000) : "")
            + (random.nextBoolean() ? " at " + random.nextInt(16) : "");
    }

    private int ask(int which, int a, int b, int c, int d, int e, long v) {
        String call = "run " + run + ": " + which + "(" + a + ", " + b + ", " + c + ", " + d + ", " + e + ", " + v + ")";
        check.due(call, answer(which, a, b, c, d, e, v), model.call(which, a, b, c, d, e, v));
        return 1;
    }

    private long answer(int which, int a, int b, int c, int d, int e, long v) {
        switch (which) {
            case 0: return x.height(a, b);
            case 1: return x.cell(a, b);
            case 2: return x.interest(a);
            case 3: return x.tide(a, b);
            case 4: return x.purse(a, b);
            case 5: return x.thing(a, b);
            case 6: return x.of(a, b);
            case 7: return x.set(a, b, c);
            case 8: return x.turn(a, b);
            case 9: return x.as(a, b);
            case 10: return x.lay(a, b);
            case 11: return x.fetch(a);
            case 12: return x.days(a);
            case 13: return x.now(a);
            case 14: return x.on(a, b);
            case 15: return x.taken(a);
            case 16: return x.home(a);
            case 17: return x.due();
            case 18: return x.spot(a, b);
            case 19: return x.delay(a, b, c);
            case 20: return x.kind(a, b);
            case 21: return x.worth(a, b, c);
            case 22: return x.richest(a);
            case 23: return x.fewest(a, b, c);
            case 24: return x.rate(a, b);
            case 25: return x.feed(a, b);
            case 26: return x.wipe();
            case 27: return x.shore();
            case 28: return x.sheet(a, b, c);
            case 29: return x.write(a, b, v);
            case 31: return x.copy(a, b, c, d, e);
            case 32: return x.lays(a);
            case 33: return x.book(a, b);
            case 34: return x.read(a, b, c);
            case 35: return x.image();
            case 36: return x.undo();
            case 37: return x.tear();
            case 38: return x.count(a);
            default: return x.status(a);
        }
    }
}
