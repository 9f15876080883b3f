import java.util.Arrays;

/**
 * The document told again as plainly as can be, for ModelTest: every DAY goes one by one, and whatever is tried is
 * tried on a copy of the whole shore.
 */
final class PlainModel {
    private static final int BEYOND = -1000000001;
    private static final int FULL = -1000000002;
    private static final int KIND = -1000000003;
    private static final int NONE = -1000000004;
    private static final int STATE = -1000000005;
    private static final int MISSING = -1000000006;
    private static final int SIZE = -1000000007;
    private static final int WRITE = 29;

    /** Columns of a thing's row. */
    private static final int OF_KIND = 0;
    private static final int OF_FAMILY = 1;
    private static final int AT = 2;
    private static final int WORTH = 3;
    private static final int IS = 4;
    private static final int SINCE = 5;

    private static final class World {
        int[] heights = new int[16];
        long[] purses = new long[4];
        int[][] things = new int[0][];
        int day;
        int interest = 2;

        World copied() {
            World w = new World();
            w.heights = heights.clone();
            w.purses = purses.clone();
            w.things = new int[things.length][];
            for (int i = 0; i < things.length; i++) {
                w.things[i] = things[i].clone();
            }
            w.day = day;
            w.interest = interest;
            return w;
        }

        World later(int n) {
            World w = copied();
            for (int i = 0; i < n; i++) {
                w.goDay();
            }
            return w;
        }

        long all() {
            return purses[0] + purses[1] + purses[2] + purses[3];
        }

        void goDay() {
            for (int[] t : things) {
                if (t[IS] == 2) {
                    if (day % 14 == 0 && day - t[SINCE] >= term(t[OF_KIND])) {
                        purses[t[OF_FAMILY]] = Math.min(999999999L, purses[t[OF_FAMILY]] + repays(t));
                        t[IS] = 0;
                    }
                } else if (t[IS] == 1 && isTaken(t)) {
                    t[IS] = 2;
                    t[SINCE] = day;
                }
            }
            day++;
        }

        boolean isTaken(int[] t) {
            int h = heights[t[AT]];
            int m = mark(day);
            boolean spring = day % 14 == 0;
            if (t[OF_KIND] == 1 || t[OF_KIND] == 4) {
                return h < m && !spring;
            }
            if (t[OF_KIND] == 2) {
                return h <= m;
            }
            if (t[OF_KIND] == 5) {
                return h <= m && spring;
            }
            return h < m;
        }

        long repays(int[] t) {
            long a = day - t[SINCE];
            long chair = t[WORTH] + t[WORTH] * interest * a / 100;
            long[] by = {chair, chair + 5, chair / 2, t[SINCE] % 28 == 14 ? 0 : chair, 2 * (chair + 5), chair / 2 + 3};
            return Math.min(99999999L, by[t[OF_KIND]]);
        }
    }

    private static int mark(int day) {
        int rest = day % 14;
        return 9 - (rest <= 7 ? rest : 14 - rest);
    }

    private static int term(int kind) {
        return new int[] {1, 8, 1, 28, 16, 15}[kind];
    }

    private World now = newWorld();
    private World kept;
    private String tape = "";
    private final int[] bits = new int[4];
    private final long[][] sheets = new long[4][];
    private final int[] found = new int[7];

    private static World newWorld() {
        World w = new World();
        for (int i = 0; i < 16; i++) {
            w.heights[i] = i % 10;
        }
        return w;
    }

    private static boolean in(long v, long least, long most) {
        return least <= v && v <= most;
    }

    private boolean noThing(int i) {
        return !in(i, 0, now.things.length - 1);
    }

    private static boolean noFamily(int f) {
        return !in(f, 0, 3);
    }

    /** Calls by their places in the face; numbers that a call doesn't take are passed over. */
    long call(int which, int a, int b, int c, int d, int e, long v) {
        long answer = answer(which, a, b, c, d, e, v);
        if (answer < -1000000000 && answer >= SIZE && which != WRITE) {
            found[(int) (BEYOND - answer)]++;
        }
        return answer;
    }

    private long answer(int which, int a, int b, int c, int d, int e, long v) {
        switch (which) {
            case 0: return height(a, b);
            case 1: return cell(a, b);
            case 2: return interest(a);
            case 3: return tide(a, b);
            case 4: return purse(a, b);
            case 5: return thing(a, b);
            case 6: return of(a, b);
            case 7: return set(a, b, c);
            case 8: return turn(a, b);
            case 9: return as(a, b);
            case 10: return lay(a, b);
            case 11: return fetch(a);
            case 12: return days(a);
            case 13: return now(a);
            case 14: return noFamily(a) || !in(b, 0, 400) ? BEYOND : now.later(b).purses[a];
            case 15: return changes(a, 1, 1, 2);
            case 16: return changes(a, 1, 2, 0);
            case 17: return due();
            case 18: return spot(a, b);
            case 19: return delay(a, b, c);
            case 20: return kind(a, b);
            case 21: return worth(a, b, c);
            case 22: return richest(a);
            case 23: return fewest(a, b, c);
            case 24: return rate(a, b);
            case 25: return feed(a, b);
            case 26: return wipe();
            case 27: return shore();
            case 28: return sheet(a, b, c);
            case WRITE: return countedWrite(a, b, v);
            case 31: return copy(a, b, c, d, e);
            case 32: return lays(a);
            case 33: return book(a, b);
            case 34: return read(a, b, c);
            case 35: kept = now.copied(); return 1;
            case 36: return undo();
            case 37: int was = kept == null ? 0 : 1; kept = null; return was;
            case 38: return count(a);
            default: return status(a);
        }
    }

    private long height(int cell, int v) {
        if (!in(cell, 0, 15) || !in(v, 0, 9)) {
            return BEYOND;
        }
        int was = now.heights[cell];
        now.heights[cell] = v;
        return was;
    }

    private long cell(int cell, int what) {
        if (!in(cell, 0, 15) || !in(what, 0, 1)) {
            return BEYOND;
        }
        if (what == 0) {
            return now.heights[cell];
        }
        int set = 0;
        for (int i = 0; i < now.things.length; i++) {
            set += now.things[i][IS] == 1 && now.things[i][AT] == cell ? 1 << i : 0;
        }
        return set;
    }

    private long interest(int v) {
        if (!in(v, 0, 50)) {
            return BEYOND;
        }
        int was = now.interest;
        now.interest = v;
        return was;
    }

    private long tide(int day, int what) {
        if (!in(day, 0, 99999) || !in(what, 0, 3)) {
            return BEYOND;
        }
        long below = Arrays.stream(now.heights).filter(h -> h < mark(day)).count();
        return new long[] {mark(day), day % 28, day % 14 == 0 ? 1 : 0, below}[what];
    }

    private long purse(int family, int v) {
        if (noFamily(family) || !in(v, 0, 999999999)) {
            return BEYOND;
        }
        long was = now.purses[family];
        now.purses[family] = v;
        return was;
    }

    private static void add(World w, int... row) {
        w.things = Arrays.copyOf(w.things, w.things.length + 1);
        w.things[w.things.length - 1] = row;
    }

    private long thing(int kind, int family) {
        if (!in(kind, 0, 5) || noFamily(family)) {
            return BEYOND;
        }
        if (now.things.length == 10) {
            return FULL;
        }
        add(now, kind, family, 0, 10, 0, 0);
        return now.things.length - 1;
    }

    private long of(int thing, int what) {
        if (noThing(thing) || !in(what, 0, 7)) {
            return BEYOND;
        }
        int[] t = now.things[thing];
        if (what == 6) {
            return term(t[OF_KIND]);
        }
        if (what == 7) {
            return t[IS] == 2 ? now.repays(t) : 0;
        }
        return t[what];
    }

    private long set(int thing, int what, int v) {
        if (noThing(thing) || !(what == 1 && in(v, 0, 3) || what == 3 && in(v, 0, 9999))) {
            return BEYOND;
        }
        int was = now.things[thing][what];
        now.things[thing][what] = v;
        return was;
    }

    private long turn(int thing, int kind) {
        if (noThing(thing) || !in(kind, 0, 5)) {
            return BEYOND;
        }
        int was = now.things[thing][OF_KIND];
        now.things[thing][OF_KIND] = kind;
        return was;
    }

    private long as(int thing, int kind) {
        if (noThing(thing) || !in(kind, 0, 5)) {
            return BEYOND;
        }
        int own = now.things[thing][OF_KIND];
        boolean under = own == kind || kind == 0 || kind == 1 && own == 4 || kind == 2 && own == 5;
        return under ? now.things[thing][WORTH] : KIND;
    }

    private long lay(int thing, int cell) {
        if (noThing(thing) || !in(cell, 0, 15)) {
            return BEYOND;
        }
        if (now.things[thing][IS] == 2) {
            return STATE;
        }
        now.things[thing][IS] = 1;
        now.things[thing][AT] = cell;
        return Long.bitCount(cell(cell, 1));
    }

    private long fetch(int thing) {
        if (noThing(thing)) {
            return BEYOND;
        }
        if (now.things[thing][IS] != 1) {
            return STATE;
        }
        now.things[thing][IS] = 0;
        return now.things[thing][AT];
    }

    private long days(int n) {
        if (!in(n, 1, 400)) {
            return BEYOND;
        }
        if (now.day + n > 99999) {
            return STATE;
        }
        now = now.later(n);
        return now.all();
    }

    private long now(int what) {
        long laid = 0;
        long lent = 0;
        long owed = 0;
        long worth = 0;
        for (int i = 0; i < now.things.length; i++) {
            int[] t = now.things[i];
            laid += t[IS] == 1 ? 1 << i : 0;
            lent += t[IS] == 2 ? 1 << i : 0;
            owed += t[IS] == 2 ? now.repays(t) : 0;
            worth += t[WORTH];
        }
        return in(what, 0, 5) ? new long[] {now.day, now.interest, laid, lent, owed, worth}[what] : BEYOND;
    }

    /** In how many days a thing that is least to most becomes another. */
    private long changes(int thing, int least, int most, int becomes) {
        if (noThing(thing)) {
            return BEYOND;
        }
        if (!in(now.things[thing][IS], least, most)) {
            return STATE;
        }
        World w = now.copied();
        for (int n = 1; n <= 400; n++) {
            w.goDay();
            if (w.things[thing][IS] == becomes) {
                return n;
            }
        }
        return NONE;
    }

    private long due() {
        World w = now.copied();
        while (w.day % 14 != 0) {
            w.goDay();
        }
        World behind = w.later(1);
        int set = 0;
        for (int i = 0; i < w.things.length; i++) {
            set += w.things[i][IS] != 0 && behind.things[i][IS] == 0 ? 1 << i : 0;
        }
        return set;
    }

    private long gain(World w, int n) {
        return w.later(n).all() - now.all();
    }

    private long spot(int thing, int n) {
        if (noThing(thing) || !in(n, 1, 100)) {
            return BEYOND;
        }
        if (now.things[thing][IS] == 2) {
            return STATE;
        }
        long[] gains = new long[16];
        for (int cell = 0; cell < 16; cell++) {
            World w = now.copied();
            w.things[thing][IS] = 1;
            w.things[thing][AT] = cell;
            gains[cell] = gain(w, n);
        }
        return firstMost(gains);
    }

    private static long firstMost(long[] row) {
        int best = 0;
        for (int i = 1; i < row.length; i++) {
            best = row[i] > row[best] ? i : best;
        }
        return best;
    }

    private long delay(int thing, int cell, int n) {
        if (noThing(thing) || !in(cell, 0, 15) || !in(n, 1, 60)) {
            return BEYOND;
        }
        if (now.things[thing][IS] == 2) {
            return STATE;
        }
        long[] gains = new long[n];
        for (int in = 0; in < n; in++) {
            World w = now.copied();
            w.things[thing][IS] = 0;
            w = w.later(in);
            w.things[thing][IS] = 1;
            w.things[thing][AT] = cell;
            gains[in] = gain(w, n - in);
        }
        return firstMost(gains);
    }

    private long kind(int thing, int n) {
        if (noThing(thing) || !in(n, 1, 100)) {
            return BEYOND;
        }
        long[] gains = new long[6];
        for (int kind = 0; kind < 6; kind++) {
            World w = now.copied();
            w.things[thing][OF_KIND] = kind;
            gains[kind] = gain(w, n);
        }
        return firstMost(gains);
    }

    private long worth(int thing, int n, int v) {
        if (noThing(thing) || !in(n, 1, 40) || !in(v, 0, 999999999)) {
            return BEYOND;
        }
        for (int worth = 0; worth <= 999; worth++) {
            World w = now.copied();
            w.things[thing][WORTH] = worth;
            if (w.later(n).purses[w.things[thing][OF_FAMILY]] >= v) {
                return worth;
            }
        }
        return NONE;
    }

    private long richest(int n) {
        return in(n, 0, 400) ? firstMost(now.later(n).purses) : BEYOND;
    }

    private long fewest(int family, int n, int v) {
        if (noFamily(family) || !in(n, 1, 40) || !in(v, 0, 999999999)) {
            return BEYOND;
        }
        int laid = (int) now(2);
        for (int many = 0; many <= 10; many++) {
            for (int set = 0; set < 1024; set++) {
                if ((set | laid) == laid && Integer.bitCount(set) == many && withAlone(set, n).purses[family] >= v) {
                    return set;
                }
            }
        }
        return NONE;
    }

    private World withAlone(int set, int n) {
        World w = now.copied();
        for (int i = 0; i < w.things.length; i++) {
            if (w.things[i][IS] == 1 && (set & 1 << i) == 0) {
                w.things[i][IS] = 0;
            }
        }
        return w.later(n);
    }

    private long rate(int n, int v) {
        if (!in(n, 1, 100) || !in(v, 0, 999999999)) {
            return BEYOND;
        }
        for (int rate = 0; rate <= 50; rate++) {
            World w = now.copied();
            w.interest = rate;
            if (gain(w, n) >= v) {
                return rate;
            }
        }
        return NONE;
    }

    private long feed(int bytes, int n) {
        if (!in(n, 1, 4)) {
            return BEYOND;
        }
        if (tape.length() + n > 120) {
            return FULL;
        }
        for (int i = n - 1; i >= 0; i--) {
            tape += (char) (bytes >>> 8 * i & 255);
        }
        return tape.length();
    }

    private long wipe() {
        int had = tape.length();
        tape = "";
        return had;
    }

    /** All tokens first, by a pattern; then the items. */
    private long shore() {
        String text = tape;
        tape = "";
        World w = now.copied();
        java.util.List<int[]> tokens = new java.util.ArrayList<>();
        java.util.regex.Matcher m = java.util.regex.Pattern.compile(" *([a-z]+|[0-9]+|[^ ])").matcher(text);
        while (m.lookingAt()) {
            tokens.add(new int[] {m.start(1), m.end(1)});
            m.region(m.end(), text.length());
        }
        tokens.add(new int[] {text.length(), text.length()});
        ModelText reading = new ModelText(text, tokens);
        int items = 0;
        do {
            if (!item(reading, w)) {
                return -1 - reading.place();
            }
            items++;
        } while (reading.takes(";"));
        if (!reading.isEnd()) {
            return -1 - reading.place();
        }
        now = w;
        return items;
    }

    private static boolean item(ModelText r, World w) {
        String[] names = {"chair", "named", "grudge", "moonless", "twice", "glass"};
        for (int kind = 0; kind < 6; kind++) {
            if (w.things.length < 10 && r.takes(names[kind])) {
                int[] row = {kind, 0, 0, 10, 0, 0};
                if (!r.takes("of") || !r.takesUpTo(3, row, OF_FAMILY)) {
                    return false;
                }
                if (r.takes("worth") && !r.takesUpTo(9999, row, WORTH)) {
                    return false;
                }
                if (r.takes("at")) {
                    row[IS] = 1;
                    if (!r.takesUpTo(15, row, AT)) {
                        return false;
                    }
                }
                add(w, row);
                return true;
            }
        }
        int[] got = new int[2];
        if (r.takes("height")) {
            boolean fits = r.takesUpTo(15, got, 0) && r.takesUpTo(9, got, 1);
            w.heights[got[0]] = fits ? got[1] : w.heights[got[0]];
            return fits;
        }
        if (r.takes("interest") && r.takesUpTo(50, got, 0)) {
            w.interest = got[0];
            return true;
        }
        return false;
    }

    private long sheet(int s, int width, int n) {
        if (!in(s, 0, 3) || width != 0 && width != 8 && width != 16 && width != 64) {
            return BEYOND;
        }
        if (n < 0) {
            return SIZE;
        }
        if (n > 40) {
            return BEYOND;
        }
        bits[s] = width;
        sheets[s] = width == 0 ? null : new long[n];
        return width == 0 ? 0 : n;
    }

    private long cut(int s, long v) {
        return bits[s] == 64 ? v : v << 64 - bits[s] >> 64 - bits[s];
    }

    private long write(int s, int i, long v) {
        if (!in(s, 0, 3)) {
            return BEYOND;
        }
        if (sheets[s] == null) {
            return MISSING;
        }
        if (!in(i, 0, sheets[s].length - 1)) {
            return BEYOND;
        }
        long was = sheets[s][i];
        sheets[s][i] = cut(s, v);
        return was;
    }

    /** A number of a sheet may look like a finding: so this one counts its findings itself. */
    private long countedWrite(int s, int i, long v) {
        boolean isFinding = !in(s, 0, 3) || sheets[s] == null || !in(i, 0, sheets[s].length - 1);
        long answer = write(s, i, v);
        if (isFinding) {
            found[(int) (BEYOND - answer)]++;
        }
        return answer;
    }

    private long copy(int s, int from, int t, int to, int n) {
        if (!in(s, 0, 3) || !in(t, 0, 3)) {
            return BEYOND;
        }
        if (sheets[s] == null || sheets[t] == null) {
            return MISSING;
        }
        if (bits[s] != bits[t]) {
            return KIND;
        }
        boolean below = from < 0 || to < 0 || n < 0;
        if (below || (long) from + n > sheets[s].length || (long) to + n > sheets[t].length) {
            return BEYOND;
        }
        long[] were = sheets[s].clone();
        for (int i = 0; i < n; i++) {
            sheets[t][to + i] = were[from + i];
        }
        return n;
    }

    private long lays(int s) {
        if (!in(s, 0, 3)) {
            return BEYOND;
        }
        if (sheets[s] == null) {
            return MISSING;
        }
        int came = 0;
        for (int i = 0; i < sheets[s].length; i++) {
            if (in(sheets[s][i], 0, 9) && i < 16) {
                now.heights[i] = (int) sheets[s][i];
                came++;
            }
        }
        return came;
    }

    private long book(int s, int family) {
        if (!in(s, 0, 3)) {
            return BEYOND;
        }
        if (sheets[s] == null) {
            return MISSING;
        }
        if (noFamily(family)) {
            return BEYOND;
        }
        for (int i = 0; i < sheets[s].length; i++) {
            sheets[s][i] = cut(s, now.later(i).purses[family]);
        }
        return sheets[s].length;
    }

    private long read(int s, int family, int thing) {
        if (!in(s, 0, 3)) {
            return BEYOND;
        }
        if (sheets[s] == null) {
            return MISSING;
        }
        if (noFamily(family) || noThing(thing)) {
            return BEYOND;
        }
        if (now.things[thing][IS] == 2) {
            return STATE;
        }
        int pairs = 0;
        for (int pair = 0; pair < 96; pair++) {
            World w = now.copied();
            w.things[thing][OF_KIND] = pair / 16;
            w.things[thing][AT] = pair % 16;
            w.things[thing][IS] = 1;
            boolean fits = true;
            for (int i = 0; i < sheets[s].length && fits; i++) {
                fits = sheets[s][i] == w.purses[family];
                w.goDay();
            }
            pairs += fits ? 1 : 0;
        }
        return pairs;
    }

    private long undo() {
        if (kept == null) {
            return NONE;
        }
        now = kept.copied();
        return now.things.length;
    }

    private long count(int what) {
        long home = Arrays.stream(now.things).filter(t -> t[IS] == 0).count();
        long heights = Arrays.stream(now.heights).sum();
        return in(what, 0, 3) ? new long[] {now.things.length, tape.length(), home, heights}[what] : BEYOND;
    }

    private long status(int which) {
        return which == -1 ? Arrays.stream(found).sum() : in(which, 0, 6) ? found[which] : BEYOND;
    }
}
