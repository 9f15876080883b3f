/** A shore that lends to the sea what is laid below the mark, and is repaid at springs. */
public final class TideLoans {
    private static final int BEYOND = -1000000001;
    private static final int FULL = -1000000002;
    private static final int KIND = -1000000003;
    private static final int NONE = -1000000004;
    private static final int STATE = -1000000005;
    private static final int MISSING = -1000000006;
    private static final int SIZE = -1000000007;
    private static final int FINDINGS = 7;

    private static final int CELLS = 16;
    private static final int HEIGHTS = 10;
    private static final int FAMILIES = 4;
    private static final int THINGS = 10;
    private static final int TAPE = 120;
    private static final int SHEETS = 4;
    private static final int NUMBERS = 40;

    private static final int LAST_DAY = 99999;
    private static final int LONGEST = 400;
    private static final int MOST_INTEREST = 50;
    private static final int MOST_PURSE = 999999999;
    private static final int MOST_WORTH = 9999;
    private static final int MOST_TRIED_WORTH = 999;
    private static final int MOST_REPAID = 99999999;
    private static final int FIRST_INTEREST = 2;
    private static final int FIRST_WORTH = 10;

    /** From spring to spring: the mark, and so what is taken, goes round in as many days. */
    private static final int TIDE = 14;
    private static final int MOON = 28;
    private static final int MOONLESS_DAY = 14;
    private static final int MARK_AT_SPRING = 9;

    private static final int CHAIR = 0;
    private static final int NAMED = 1;
    private static final int GRUDGE = 2;
    private static final int MOONLESS = 3;
    private static final int TWICE = 4;
    private static final int GLASS = 5;
    private static final int KINDS = 6;

    private static final int HOME = 0;
    private static final int LAID = 1;
    private static final int LENT = 2;

    private static final int NOBODY = -1;

    private static final int END = 0;
    private static final int WORD = 1;
    private static final int NUMBER = 2;
    private static final int SIGN = 3;
    private static final int OTHER = 4;

    private final int[] found = new int[FINDINGS];
    private final Shore live = new Shore();
    private final Shore kept = new Shore();
    private final Shore draft = new Shore();
    private final Tape tape = new Tape();
    private final Sheet[] sheets = new Sheet[SHEETS];
    private final Way[] ways = new Way[THINGS];
    private final int[] shares = new int[THINGS];
    private final int[] course = new int[NUMBERS];
    private final Thing trial = new Thing();
    private final Way trialWay = new Way();
    private boolean isKept;

    public TideLoans() {
        for (int i = 0; i < SHEETS; i++) {
            sheets[i] = new Sheet();
        }
        for (int i = 0; i < THINGS; i++) {
            ways[i] = new Way();
        }
    }

    // ---- the shore

    public int height(int cell, int v) {
        if (!isBelow(cell, CELLS) || !isBelow(v, HEIGHTS)) {
            return finding(BEYOND);
        }
        int was = live.heights[cell];
        live.heights[cell] = v;
        return was;
    }

    public int cell(int cell, int what) {
        if (!isBelow(cell, CELLS) || !isBelow(what, 2)) {
            return finding(BEYOND);
        }
        return what == 0 ? live.heights[cell] : live.laidAt(cell);
    }

    public int interest(int v) {
        if (!isUpTo(v, 0, MOST_INTEREST)) {
            return finding(BEYOND);
        }
        int was = live.interest;
        live.interest = v;
        return was;
    }

    public int tide(int day, int what) {
        if (!isUpTo(day, 0, LAST_DAY)) {
            return finding(BEYOND);
        }
        switch (what) {
            case 0: return markOf(day);
            case 1: return moonOf(day);
            case 2: return isSpring(day) ? 1 : 0;
            case 3: return live.cellsBelow(markOf(day));
            default: return finding(BEYOND);
        }
    }

    public int purse(int family, int v) {
        if (!isBelow(family, FAMILIES) || !isUpTo(v, 0, MOST_PURSE)) {
            return finding(BEYOND);
        }
        int was = live.purses[family];
        live.purses[family] = v;
        return was;
    }

    // ---- things

    public int thing(int kind, int family) {
        if (!isBelow(kind, KINDS) || !isBelow(family, FAMILIES)) {
            return finding(BEYOND);
        }
        if (live.isFull()) {
            return finding(FULL);
        }
        return live.add(kind, family);
    }

    public int of(int thing, int what) {
        if (!live.has(thing)) {
            return finding(BEYOND);
        }
        Thing t = live.things[thing];
        switch (what) {
            case 0: return t.kind;
            case 1: return t.family;
            case 2: return t.cell;
            case 3: return t.worth;
            case 4: return t.state;
            case 5: return t.since;
            case 6: return termOf(t.kind);
            case 7: return owedNow(t);
            default: return finding(BEYOND);
        }
    }

    public int set(int thing, int what, int v) {
        if (!live.has(thing)) {
            return finding(BEYOND);
        }
        Thing t = live.things[thing];
        int was;
        if (what == 1 && isBelow(v, FAMILIES)) {
            was = t.family;
            t.family = v;
        } else if (what == 3 && isUpTo(v, 0, MOST_WORTH)) {
            was = t.worth;
            t.worth = v;
        } else {
            was = finding(BEYOND);
        }
        return was;
    }

    public int turn(int thing, int kind) {
        if (!live.has(thing) || !isBelow(kind, KINDS)) {
            return finding(BEYOND);
        }
        Thing t = live.things[thing];
        int was = t.kind;
        t.kind = kind;
        return was;
    }

    public int as(int thing, int kind) {
        if (!live.has(thing) || !isBelow(kind, KINDS)) {
            return finding(BEYOND);
        }
        Thing t = live.things[thing];
        if (!isUnder(t.kind, kind)) {
            return finding(KIND);
        }
        return t.worth;
    }

    public int lay(int thing, int cell) {
        if (!live.has(thing) || !isBelow(cell, CELLS)) {
            return finding(BEYOND);
        }
        Thing t = live.things[thing];
        if (t.state == LENT) {
            return finding(STATE);
        }
        t.layAt(cell);
        return Integer.bitCount(live.laidAt(cell));
    }

    public int fetch(int thing) {
        if (!live.has(thing)) {
            return finding(BEYOND);
        }
        Thing t = live.things[thing];
        if (t.state != LAID) {
            return finding(STATE);
        }
        t.state = HOME;
        return t.cell;
    }

    // ---- days

    public long days(int n) {
        if (!isUpTo(n, 1, LONGEST)) {
            return finding(BEYOND);
        }
        if (live.day + n > LAST_DAY) {
            return finding(STATE);
        }
        followAll(n);
        for (int i = 0; i < live.size; i++) {
            bring(live.things[i], ways[i]);
        }
        live.day += n;
        return live.allPurses();
    }

    public int now(int what) {
        switch (what) {
            case 0: return live.day;
            case 1: return live.interest;
            case 2: return live.allIn(LAID);
            case 3: return live.allIn(LENT);
            case 4: return allOwedNow();
            case 5: return live.allWorth();
            default: return finding(BEYOND);
        }
    }

    public int on(int family, int n) {
        if (!isBelow(family, FAMILIES) || !isUpTo(n, 0, LONGEST)) {
            return finding(BEYOND);
        }
        followAll(n);
        return purseThen(family, live.interest, NOBODY);
    }

    public int taken(int thing) {
        if (!live.has(thing)) {
            return finding(BEYOND);
        }
        if (live.things[thing].state != LAID) {
            return finding(STATE);
        }
        follow(thing, LONGEST);
        int in = ways[thing].lentIn;
        return in > 0 ? in : finding(NONE);
    }

    public int home(int thing) {
        if (!live.has(thing)) {
            return finding(BEYOND);
        }
        if (live.things[thing].state == HOME) {
            return finding(STATE);
        }
        follow(thing, LONGEST);
        int in = ways[thing].homeIn;
        return in > 0 ? in : finding(NONE);
    }

    public int due() {
        // Nothing comes home but on springs, so all that comes by the next one comes on it.
        followAll(springFrom(live.day) - live.day + 1);
        int set = 0;
        for (int i = 0; i < live.size; i++) {
            if (ways[i].homeIn > 0) {
                set |= 1 << i;
            }
        }
        return set;
    }

    // ---- what is best

    public int spot(int thing, int n) {
        if (!live.has(thing) || !isUpTo(n, 1, 100)) {
            return finding(BEYOND);
        }
        if (live.things[thing].state == LENT) {
            return finding(STATE);
        }
        int rest = tryOn(thing, n);
        int best = 0;
        int most = -1;
        for (int cell = 0; cell < CELLS; cell++) {
            trial.layAt(cell);
            int then = purseWithTrial(rest, 0, n);
            if (then > most) {
                most = then;
                best = cell;
            }
        }
        return best;
    }

    public int delay(int thing, int cell, int n) {
        if (!live.has(thing) || !isBelow(cell, CELLS) || !isUpTo(n, 1, 60)) {
            return finding(BEYOND);
        }
        if (live.things[thing].state == LENT) {
            return finding(STATE);
        }
        int rest = tryOn(thing, n);
        trial.layAt(cell);
        int best = 0;
        int most = -1;
        for (int in = 0; in < n; in++) {
            int then = purseWithTrial(rest, in, n);
            if (then > most) {
                most = then;
                best = in;
            }
        }
        return best;
    }

    public int kind(int thing, int n) {
        if (!live.has(thing) || !isUpTo(n, 1, 100)) {
            return finding(BEYOND);
        }
        int rest = tryOn(thing, n);
        int best = 0;
        int most = -1;
        for (int kind = 0; kind < KINDS; kind++) {
            trial.kind = kind;
            int then = purseWithTrial(rest, 0, n);
            if (then > most) {
                most = then;
                best = kind;
            }
        }
        return best;
    }

    public int worth(int thing, int n, int v) {
        if (!live.has(thing) || !isUpTo(n, 1, 40) || !isUpTo(v, 0, MOST_PURSE)) {
            return finding(BEYOND);
        }
        int rest = tryOn(thing, n);
        followTrial(0, n);
        for (int worth = 0; worth <= MOST_TRIED_WORTH; worth++) {
            trial.worth = worth;
            if (filled(rest, trialWay.brings(trial, live.interest)) >= v) {
                return worth;
            }
        }
        return finding(NONE);
    }

    public int richest(int n) {
        if (!isUpTo(n, 0, LONGEST)) {
            return finding(BEYOND);
        }
        followAll(n);
        int best = 0;
        int most = -1;
        for (int family = 0; family < FAMILIES; family++) {
            int then = purseThen(family, live.interest, NOBODY);
            if (then > most) {
                most = then;
                best = family;
            }
        }
        return best;
    }

    public int fewest(int family, int n, int v) {
        if (!isBelow(family, FAMILIES) || !isUpTo(n, 1, 40) || !isUpTo(v, 0, MOST_PURSE)) {
            return finding(BEYOND);
        }
        followAll(n);
        int useful = shareOut(family);
        int sure = sureThen(family);
        int best = NOBODY;
        int least = THINGS + 1;
        // Upwards, and only by fewer: so of several with as many the least one stays.
        for (int set = 0; set <= useful; set++) {
            boolean isFewer = (set & ~useful) == 0 && Integer.bitCount(set) < least;
            if (isFewer && filled(sure, sharesOf(set)) >= v) {
                best = set;
                least = Integer.bitCount(set);
            }
        }
        return best >= 0 ? best : finding(NONE);
    }

    public int rate(int n, int v) {
        if (!isUpTo(n, 1, 100) || !isUpTo(v, 0, MOST_PURSE)) {
            return finding(BEYOND);
        }
        followAll(n);
        for (int rate = 0; rate <= MOST_INTEREST; rate++) {
            if (gainAt(rate) >= v) {
                return rate;
            }
        }
        return finding(NONE);
    }

    // ---- the text

    public int feed(int bytes, int n) {
        if (!isUpTo(n, 1, 4)) {
            return finding(BEYOND);
        }
        if (tape.length + n > TAPE) {
            return finding(FULL);
        }
        for (int i = n - 1; i >= 0; i--) {
            tape.put((byte) (bytes >> (8 * i)));
        }
        return tape.length;
    }

    public int wipe() {
        int had = tape.length;
        tape.length = 0;
        return had;
    }

    public int shore() {
        draft.become(live);
        int items = readText();
        if (items > 0) {
            live.become(draft);
        }
        tape.length = 0;
        return items;
    }

    // ---- sheets

    public int sheet(int s, int bits, int n) {
        if (!isBelow(s, SHEETS) || !isWidth(bits)) {
            return finding(BEYOND);
        }
        if (n < 0) {
            return finding(SIZE);
        }
        if (n > NUMBERS) {
            return finding(BEYOND);
        }
        sheets[s].renew(bits, n);
        return sheets[s].size;
    }

    public long write(int s, int i, long v) {
        if (!isBelow(s, SHEETS)) {
            return finding(BEYOND);
        }
        Sheet sheet = sheets[s];
        if (sheet.isMissing()) {
            return finding(MISSING);
        }
        if (!isBelow(i, sheet.size)) {
            return finding(BEYOND);
        }
        long was = sheet.numbers[i];
        sheet.put(i, v);
        return was;
    }

    public int copy(int s, int from, int t, int to, int n) {
        if (!isBelow(s, SHEETS) || !isBelow(t, SHEETS)) {
            return finding(BEYOND);
        }
        Sheet source = sheets[s];
        Sheet target = sheets[t];
        if (source.isMissing() || target.isMissing()) {
            return finding(MISSING);
        }
        if (source.bits != target.bits) {
            return finding(KIND);
        }
        if (!source.hasRun(from, n) || !target.hasRun(to, n)) {
            return finding(BEYOND);
        }
        System.arraycopy(source.numbers, from, target.numbers, to, n);
        return n;
    }

    public int lays(int s) {
        if (!isBelow(s, SHEETS)) {
            return finding(BEYOND);
        }
        Sheet sheet = sheets[s];
        if (sheet.isMissing()) {
            return finding(MISSING);
        }
        int came = 0;
        for (int i = 0; i < sheet.size && i < CELLS; i++) {
            long height = sheet.numbers[i];
            if (height >= 0 && height < HEIGHTS) {
                live.heights[i] = (int) height;
                came++;
            }
        }
        return came;
    }

    public int book(int s, int family) {
        if (!isBelow(s, SHEETS)) {
            return finding(BEYOND);
        }
        Sheet sheet = sheets[s];
        if (sheet.isMissing()) {
            return finding(MISSING);
        }
        if (!isBelow(family, FAMILIES)) {
            return finding(BEYOND);
        }
        plotCourse(family, NOBODY, sheet.size);
        for (int i = 0; i < sheet.size; i++) {
            sheet.put(i, course[i]);
        }
        return sheet.size;
    }

    public int read(int s, int family, int thing) {
        if (!isBelow(s, SHEETS)) {
            return finding(BEYOND);
        }
        Sheet sheet = sheets[s];
        if (sheet.isMissing()) {
            return finding(MISSING);
        }
        if (!isBelow(family, FAMILIES) || !live.has(thing)) {
            return finding(BEYOND);
        }
        if (live.things[thing].state == LENT) {
            return finding(STATE);
        }
        plotCourse(family, thing, sheet.size);
        trial.become(live.things[thing]);
        int pairs = 0;
        for (int kind = 0; kind < KINDS; kind++) {
            pairs += cellsThatFit(sheet, family, kind);
        }
        return pairs;
    }

    // ---- images

    public int image() {
        kept.become(live);
        isKept = true;
        return 1;
    }

    public int undo() {
        if (!isKept) {
            return finding(NONE);
        }
        live.become(kept);
        return live.size;
    }

    public int tear() {
        int was = isKept ? 1 : 0;
        isKept = false;
        return was;
    }

    public int count(int what) {
        switch (what) {
            case 0: return live.size;
            case 1: return tape.length;
            case 2: return Integer.bitCount(live.allIn(HOME));
            case 3: return live.allHeights();
            default: return finding(BEYOND);
        }
    }

    public int status(int which) {
        if (isBelow(which, FINDINGS)) {
            return found[which];
        }
        if (which != -1) {
            return finding(BEYOND);
        }
        int all = 0;
        for (int i = 0; i < FINDINGS; i++) {
            all += found[i];
        }
        return all;
    }

    // ---- findings and bounds

    private int finding(int which) {
        int i = BEYOND - which;
        if (isBelow(i, FINDINGS)) {
            found[i]++;
        }
        return which;
    }

    private static boolean isBelow(int v, int bound) {
        return v >= 0 && v < bound;
    }

    private static boolean isUpTo(int v, int least, int most) {
        return v >= least && v <= most;
    }

    private static boolean isWidth(int bits) {
        return bits == 0 || bits == 8 || bits == 16 || bits == 64;
    }

    // ---- tides

    private static int moonOf(int day) {
        return day % MOON;
    }

    private static boolean isSpring(int day) {
        return day % TIDE == 0;
    }

    private static int markOf(int day) {
        int rest = day % TIDE;
        int off = rest < TIDE - rest ? rest : TIDE - rest;
        return MARK_AT_SPRING - off;
    }

    /** The first spring that isn't before a day. */
    private static int springFrom(int day) {
        return (day + TIDE - 1) / TIDE * TIDE;
    }

    // ---- kinds: each says what it does otherwise than the kind above it

    private static int kindAbove(int kind) {
        switch (kind) {
            case CHAIR: return NOBODY;
            case TWICE: return NAMED;
            case GLASS: return GRUDGE;
            default: return CHAIR;
        }
    }

    private static boolean isUnder(int kind, int top) {
        int k = kind;
        for (int depth = 0; depth < KINDS && k != top && k != NOBODY; depth++) {
            k = kindAbove(k);
        }
        return k == top;
    }

    private static boolean isTaken(int kind, int height, int day) {
        switch (kind) {
            case NAMED: return isTaken(CHAIR, height, day) && !isSpring(day);
            case GRUDGE: return height <= markOf(day);
            case MOONLESS: return isTaken(CHAIR, height, day);
            case TWICE: return isTaken(NAMED, height, day);
            case GLASS: return isTaken(GRUDGE, height, day) && isSpring(day);
            default: return height < markOf(day);
        }
    }

    private static int termOf(int kind) {
        switch (kind) {
            case NAMED: return termOf(CHAIR) + 7;
            case GRUDGE: return termOf(CHAIR);
            case MOONLESS: return 28;
            case TWICE: return 2 * termOf(NAMED);
            case GLASS: return termOf(GRUDGE) + 14;
            default: return 1;
        }
    }

    /** What a kind brings that was lent on a day, by what a chair would bring. */
    private static long broughtAs(int kind, long chair, int since) {
        switch (kind) {
            case NAMED: return broughtAs(CHAIR, chair, since) + 5;
            case GRUDGE: return broughtAs(CHAIR, chair, since) / 2;
            case MOONLESS:
                return moonOf(since) == MOONLESS_DAY ? 0 : broughtAs(CHAIR, chair, since);
            case TWICE: return 2 * broughtAs(NAMED, chair, since);
            case GLASS: return broughtAs(GRUDGE, chair, since) + 3;
            default: return chair;
        }
    }

    private static int repaid(Thing t, int interest, int since, int away) {
        long chair = t.worth + (long) t.worth * interest * away / 100;
        return (int) Math.min(MOST_REPAID, broughtAs(t.kind, chair, since));
    }

    private int owedNow(Thing t) {
        return t.state == LENT ? repaid(t, live.interest, t.since, live.day - t.since) : 0;
    }

    private int allOwedNow() {
        int all = 0;
        for (int i = 0; i < live.size; i++) {
            all += owedNow(live.things[i]);
        }
        return all;
    }

    // ---- days to come. No thing bears on another, and a purse that is only added to
    // is the sum or its bound: so each thing is followed by itself.

    private static int filled(int purse, int more) {
        return Math.min(MOST_PURSE, purse + more);
    }

    private void follow(int thing, int n) {
        Thing t = live.things[thing];
        ways[thing].follow(t, live.heights[t.cell], live.day, n);
    }

    private void followAll(int n) {
        for (int i = 0; i < live.size; i++) {
            follow(i, n);
        }
    }

    private void bring(Thing t, Way way) {
        live.purses[t.family] = filled(live.purses[t.family], way.brings(t, live.interest));
        t.state = way.state;
        t.since = way.since;
    }

    /** A purse after the days that were followed, as if one thing brought nothing. */
    private int purseThen(int family, int interest, int without) {
        int purse = live.purses[family];
        for (int i = 0; i < live.size; i++) {
            Thing t = live.things[i];
            if (t.family == family && i != without) {
                purse = filled(purse, ways[i].brings(t, interest));
            }
        }
        return purse;
    }

    private long gainAt(int interest) {
        long then = 0;
        for (int family = 0; family < FAMILIES; family++) {
            then += purseThen(family, interest, NOBODY);
        }
        return then - live.allPurses();
    }

    // ---- one thing tried otherwise: gain is most where the purse of its family is

    /** The thing to be tried is laid ready; answers what its family has without it. */
    private int tryOn(int thing, int n) {
        trial.become(live.things[thing]);
        followAll(n);
        return purseThen(trial.family, live.interest, thing);
    }

    private void followTrial(int in, int n) {
        trialWay.follow(trial, live.heights[trial.cell], live.day + in, n - in);
    }

    private int purseWithTrial(int rest, int in, int n) {
        followTrial(in, n);
        return filled(rest, trialWay.brings(trial, live.interest));
    }

    // ---- which things are enough

    /** Notes what each laid thing of a family brings; answers the set of those that bring something. */
    private int shareOut(int family) {
        int set = 0;
        for (int i = 0; i < live.size; i++) {
            Thing t = live.things[i];
            boolean counts = t.family == family && t.state == LAID;
            shares[i] = counts ? ways[i].brings(t, live.interest) : 0;
            if (shares[i] > 0) {
                set |= 1 << i;
            }
        }
        return set;
    }

    private int sharesOf(int set) {
        int all = 0;
        for (int i = 0; i < THINGS; i++) {
            if ((set >> i & 1) == 1) {
                all += shares[i];
            }
        }
        return all;
    }

    /** What a family has with nothing laid: things at sea come home all the same. */
    private int sureThen(int family) {
        int purse = live.purses[family];
        for (int i = 0; i < live.size; i++) {
            Thing t = live.things[i];
            if (t.family == family && t.state == LENT) {
                purse = filled(purse, ways[i].brings(t, live.interest));
            }
        }
        return purse;
    }

    // ---- books

    /** The course gets a purse on 0, 1, 2, .. days, as if one thing brought nothing. */
    private void plotCourse(int family, int without, int size) {
        for (int i = 0; i < size && i < NUMBERS; i++) {
            course[i] = live.purses[family];
        }
        followAll(size - 1);
        for (int i = 0; i < live.size; i++) {
            if (live.things[i].family == family && i != without) {
                addToCourse(ways[i].homeIn, ways[i].brings(live.things[i], live.interest), size);
            }
        }
    }

    private void addToCourse(int from, int more, int size) {
        for (int i = from; i < size && i < NUMBERS; i++) {
            course[i] = filled(course[i], more);
        }
    }

    private int cellsThatFit(Sheet sheet, int family, int kind) {
        int cells = 0;
        trial.kind = kind;
        for (int cell = 0; cell < CELLS; cell++) {
            trial.layAt(cell);
            followTrial(0, sheet.size - 1);
            int more = trial.family == family ? trialWay.brings(trial, live.interest) : 0;
            if (isCourseWith(sheet, trialWay.homeIn, more)) {
                cells++;
            }
        }
        return cells;
    }

    private boolean isCourseWith(Sheet sheet, int from, int more) {
        for (int i = 0; i < sheet.size && i < NUMBERS; i++) {
            int purse = i >= from ? filled(course[i], more) : course[i];
            if (sheet.numbers[i] != purse) {
                return false;
            }
        }
        return true;
    }

    // ---- the text of a shore, read into the draft

    /** How many items there are, or -1 less the place of the fault. */
    private int readText() {
        tape.rewind();
        int items = 0;
        boolean goesOn = true;
        // Every item has bytes of its own, so there are never more items than bytes.
        while (goesOn && items < TAPE) {
            if (!readItem()) {
                return -1 - tape.start;
            }
            items++;
            goesOn = tape.token == SIGN;
            if (goesOn) {
                tape.step();
            }
        }
        return tape.token == END ? items : -1 - tape.start;
    }

    private boolean readItem() {
        int kind = tape.kindNamed();
        if (kind != NOBODY) {
            return !draft.isFull() && readThing(kind);
        }
        if (tape.isWord("height")) {
            return readHeight();
        }
        return tape.isWord("interest") && readInterest();
    }

    private boolean readThing(int kind) {
        tape.step();
        if (!tape.isWord("of")) {
            return false;
        }
        tape.step();
        if (!tape.isNumberTo(FAMILIES - 1)) {
            return false;
        }
        int made = draft.add(kind, tape.number);
        tape.step();
        return draft.has(made) && readWorth(draft.things[made]) && readPlace(draft.things[made]);
    }

    private boolean readWorth(Thing t) {
        if (!tape.isWord("worth")) {
            return true;
        }
        tape.step();
        if (!tape.isNumberTo(MOST_WORTH)) {
            return false;
        }
        t.worth = tape.number;
        tape.step();
        return true;
    }

    private boolean readPlace(Thing t) {
        if (!tape.isWord("at")) {
            return true;
        }
        tape.step();
        if (!tape.isNumberTo(CELLS - 1)) {
            return false;
        }
        t.layAt(tape.number);
        tape.step();
        return true;
    }

    private boolean readHeight() {
        tape.step();
        if (!tape.isNumberTo(CELLS - 1)) {
            return false;
        }
        int cell = tape.number;
        tape.step();
        if (!tape.isNumberTo(HEIGHTS - 1)) {
            return false;
        }
        draft.heights[cell] = tape.number;
        tape.step();
        return true;
    }

    private boolean readInterest() {
        tape.step();
        if (!tape.isNumberTo(MOST_INTEREST)) {
            return false;
        }
        draft.interest = tape.number;
        tape.step();
        return true;
    }

    /** One thing that is lent and repaid. */
    private static final class Thing {
        int kind;
        int family;
        int cell;
        int worth;
        int state;
        int since;

        void begin(int ofKind, int ofFamily) {
            kind = ofKind;
            family = ofFamily;
            cell = 0;
            worth = FIRST_WORTH;
            state = HOME;
            since = 0;
        }

        void layAt(int where) {
            cell = where;
            state = LAID;
        }

        void become(Thing other) {
            kind = other.kind;
            family = other.family;
            cell = other.cell;
            worth = other.worth;
            state = other.state;
            since = other.since;
        }
    }

    /** All that an image keeps. */
    private static final class Shore {
        final int[] heights = new int[CELLS];
        final int[] purses = new int[FAMILIES];
        final Thing[] things = new Thing[THINGS];
        int size;
        int day;
        int interest = FIRST_INTEREST;

        Shore() {
            for (int i = 0; i < CELLS; i++) {
                heights[i] = i % HEIGHTS;
            }
            for (int i = 0; i < THINGS; i++) {
                things[i] = new Thing();
            }
        }

        void become(Shore other) {
            System.arraycopy(other.heights, 0, heights, 0, CELLS);
            System.arraycopy(other.purses, 0, purses, 0, FAMILIES);
            size = other.size;
            day = other.day;
            interest = other.interest;
            for (int i = 0; i < size; i++) {
                things[i].become(other.things[i]);
            }
        }

        boolean has(int i) {
            return isBelow(i, size);
        }

        boolean isFull() {
            return size >= THINGS;
        }

        /** The number of the new thing, or NOBODY if there is no room for it. */
        int add(int kind, int family) {
            if (isFull()) {
                return NOBODY;
            }
            things[size].begin(kind, family);
            size++;
            return size - 1;
        }

        int laidAt(int cell) {
            int set = 0;
            for (int i = 0; i < size; i++) {
                if (things[i].state == LAID && things[i].cell == cell) {
                    set |= 1 << i;
                }
            }
            return set;
        }

        int allIn(int state) {
            int set = 0;
            for (int i = 0; i < size; i++) {
                if (things[i].state == state) {
                    set |= 1 << i;
                }
            }
            return set;
        }

        int allWorth() {
            int all = 0;
            for (int i = 0; i < size; i++) {
                all += things[i].worth;
            }
            return all;
        }

        int allHeights() {
            int all = 0;
            for (int i = 0; i < CELLS; i++) {
                all += heights[i];
            }
            return all;
        }

        int cellsBelow(int mark) {
            int cells = 0;
            for (int i = 0; i < CELLS; i++) {
                if (heights[i] < mark) {
                    cells++;
                }
            }
            return cells;
        }

        long allPurses() {
            long all = 0;
            for (int i = 0; i < FAMILIES; i++) {
                all += purses[i];
            }
            return all;
        }
    }

    /** What becomes of one thing in some days to come, with all as it is. */
    private static final class Way {
        /** In how many days it is lent and comes home: 0 if it doesn't. */
        int lentIn;
        int homeIn;
        /** For how many days it was lent when it came home. */
        int away;
        /** What it is, and since when, after these days. */
        int state;
        int since;

        void follow(Thing t, int height, int day, int n) {
            lentIn = 0;
            homeIn = 0;
            away = 0;
            state = t.state;
            since = t.since;
            if (state == LAID) {
                waitForTide(t.kind, height, day, n);
            }
            if (state == LENT) {
                waitForSpring(t.kind, day, n);
            }
        }

        private void waitForTide(int kind, int height, int day, int n) {
            // The tide goes round: what isn't taken in one round never is.
            for (int i = 0; i < n && i < TIDE && state == LAID; i++) {
                if (isTaken(kind, height, day + i)) {
                    state = LENT;
                    since = day + i;
                    lentIn = i + 1;
                }
            }
        }

        private void waitForSpring(int kind, int day, int n) {
            int back = springFrom(Math.max(day, since + termOf(kind)));
            if (back - day < n) {
                state = HOME;
                homeIn = back - day + 1;
                away = back - since;
            }
        }

        int brings(Thing t, int interest) {
            return homeIn > 0 ? repaid(t, interest, since, away) : 0;
        }
    }

    /** A row of numbers; it is missing while it has no bits. */
    private static final class Sheet {
        final long[] numbers = new long[NUMBERS];
        int bits;
        int size;

        boolean isMissing() {
            return bits == 0;
        }

        void renew(int ofBits, int n) {
            bits = ofBits;
            size = ofBits == 0 ? 0 : n;
            for (int i = 0; i < NUMBERS; i++) {
                numbers[i] = 0;
            }
        }

        void put(int i, long v) {
            if (bits == 8) {
                numbers[i] = (byte) v;
            } else if (bits == 16) {
                numbers[i] = (short) v;
            } else {
                numbers[i] = v;
            }
        }

        boolean hasRun(int from, int n) {
            return from >= 0 && n >= 0 && from <= size && n <= size - from;
        }
    }

    /** The bytes of a text, and the token that is looked at. */
    private static final class Tape {
        final byte[] bytes = new byte[TAPE];
        int length;
        int token;
        /** Where the token begins, and where what follows it does. */
        int start;
        int next;
        /** The number that was asked for latest. */
        int number;

        void put(byte b) {
            if (length < TAPE) {
                bytes[length] = b;
                length++;
            }
        }

        void rewind() {
            next = 0;
            step();
        }

        void step() {
            while (next < length && bytes[next] == ' ') {
                next++;
            }
            start = next;
            token = next < length ? tokenOf(bytes[next]) : END;
            if (token == WORD || token == NUMBER) {
                while (next < length && tokenOf(bytes[next]) == token) {
                    next++;
                }
            } else if (token != END) {
                next++;
            }
        }

        private static int tokenOf(byte b) {
            if (b >= 'a' && b <= 'z') {
                return WORD;
            }
            if (b >= '0' && b <= '9') {
                return NUMBER;
            }
            return b == ';' ? SIGN : OTHER;
        }

        boolean isNumberTo(int most) {
            number = 0;
            for (int i = start; i < next && token == NUMBER; i++) {
                // Held just above the most that may be, so that no row of digits wraps around.
                number = Math.min(MOST_WORTH + 1, number * 10 + bytes[i] - '0');
            }
            return token == NUMBER && number <= most;
        }

        boolean isWord(String word) {
            if (token != WORD || next - start != word.length()) {
                return false;
            }
            for (int i = 0; i < word.length(); i++) {
                if (bytes[start + i] != word.charAt(i)) {
                    return false;
                }
            }
            return true;
        }

        /** The kind whose name the token is, or NOBODY. */
        int kindNamed() {
            for (int kind = 0; kind < KINDS; kind++) {
                if (isWord(nameOf(kind))) {
                    return kind;
                }
            }
            return NOBODY;
        }

        private static String nameOf(int kind) {
            switch (kind) {
                case NAMED: return "named";
                case GRUDGE: return "grudge";
                case MOONLESS: return "moonless";
                case TWICE: return "twice";
                case GLASS: return "glass";
                default: return "chair";
            }
        }
    }
}
