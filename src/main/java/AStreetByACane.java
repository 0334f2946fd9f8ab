import java.util.Arrays;

/**
 * A street by a cane: a walker who knows where he is by odds alone.
 * The words of the document (SHELF, ROW, SIGN, THING, ODDS, NEWS, ..) are used here in its sense.
 */
public final class AStreetByACane {
    public static final int NONE = -1;

    private static final int FINE = 0;
    private static final int NOBODY = -1;
    private static final int OTHER = -2;
    private static final int NOTHING = -3;
    private static final int BELOW = -4;
    private static final int BEYOND = -5;
    private static final int WRONG = -6;
    private static final int ROOM = -7;
    /** What least() and goings() answer below the refusal that they count, as NONE is an answer there. */
    private static final int ASIDE = -10;

    private static final int SHELVES = 8;
    private static final int SORTS = 4;
    private static final int MOST_ELEMENTS = 160;
    private static final int ROW_MARK = 100;
    private static final int SHORTEST = 2;
    private static final int LONGEST = 24;
    private static final int MOST_SIGNS = 8;
    private static final int MOST_THINGS = 8;
    private static final int MOST_NEWS = 16;
    /** 24 times 10 to the power of 17 is the greatest sum of ODDS that a long can be trusted with. */
    private static final int MOST_NEWS_WEIGHED = 17;
    private static final int MOST_NEWS_FOR_LEAST = 9;
    private static final int TEN = 10;
    private static final int HUNDRED = 100;
    private static final int LAST_HOUR = 7;
    private static final int WIDEST_ARC = 9;
    private static final int LAST_BYTE = 255;
    private static final int WIDEST_ROAD = 9;
    private static final int MOST_GOINGS = 99;

    private static final int KINDS = 7;
    private static final int SIGN = 0;
    private static final int FELT = 1;
    private static final int SOUND = 2;
    private static final int SMELT = 3;
    private static final int SLOPE = 4;
    private static final int COUNT = 5;
    private static final int FALSE = 6;
    /** The KIND above each KIND. */
    private static final int[] ABOVE = {-1, 0, 0, 2, 1, 0, 1};

    private static final int ACTS = 3;
    private static final int FEELS = 0;
    private static final int TEACHES = 1;
    private static final int FADES = 2;
    /** The bodies of each KIND's three ACTS; 0 where the KIND above has to do. */
    private static final int[] BODIES = {
        10, 11, 12,
        20, 0, 0,
        0, 0, 50,
        0, 0, 60,
        0, 30, 0,
        70, 71, 0,
        0, 40, 41
    };

    private final Shelf[] shelves = new Shelf[SHELVES];
    private final Street street = new Street();
    /** Where news and texts are tried, so that nothing has changed if they can't be. */
    private final Street trial = new Street();
    private final Street kept = new Street();
    private boolean isKept = false;
    private final int[] refusals = new int[8];
    private int latestFault = NONE;
    private final Outlook outlook = new Outlook();
    private final Trace ran = new Trace();
    private final long[] drifts = new long[2 * WIDEST_ROAD + 1];

    public AStreetByACane() {
        for (int s = 0; s < SHELVES; s++) {
            shelves[s] = new Shelf();
        }
    }

    // ---- the shelves

    public int row(int s, int sort, int n) {
        Shelf shelf = shelfAt(s);
        if (shelf == null) {
            return refused(NOBODY);
        }
        if (n < 0) {
            return refused(BELOW);
        }
        if (sort < 0 || sort >= SORTS) {
            return refused(WRONG);
        }
        if (n > MOST_ELEMENTS) {
            return refused(ROOM);
        }
        shelf.takeRow(sort, n);
        return 1;
    }

    public int set(int s, int i, long v) {
        Shelf shelf = shelfAt(s);
        int trouble = rowTrouble(shelf);
        if (shelf == null || trouble != FINE) {
            return refused(trouble);
        }
        if (!shelf.hasRun(i, 1)) {
            return refused(BEYOND);
        }
        shelf.put(i, v);
        return 1;
    }

    public int copy(int p, int q, int i, int j, int n) {
        Shelf from = shelfAt(p);
        Shelf to = shelfAt(q);
        int trouble = pairTrouble(from, to);
        if (from == null || to == null || trouble != FINE) {
            return refused(trouble);
        }
        if (n < 0) {
            return refused(BELOW);
        }
        if (!from.hasRun(i, n) || !to.hasRun(j, n)) {
            return refused(BEYOND);
        }
        System.arraycopy(from.elements, i, to.elements, j, n);
        return 1;
    }

    public long element(int s, int i) {
        Shelf shelf = shelfAt(s);
        return shelf == null ? 0L : shelf.valueAt(i);
    }

    public int show(int s, int sign) {
        Shelf shelf = shelfAt(s);
        if (shelf == null || sign != NONE && street.signAt(sign) == null) {
            return refused(NOBODY);
        }
        shelf.takeSign(sign);
        return sign == NONE ? 0 : 1;
    }

    public int holds(int s) {
        Shelf shelf = shelfAt(s);
        return shelf == null ? NONE : shelf.held;
    }

    public int says(int s, int kind) {
        Shelf shelf = shelfAt(s);
        if (shelf == null || kind < 0 || kind >= KINDS) {
            return refused(NOBODY);
        }
        if (shelf.held == NONE) {
            return refused(NOTHING);
        }
        Sign sign = street.signAt(shelf.held);
        if (sign == null || !sign.isOf(kind)) {
            return refused(OTHER);
        }
        return street.saidBy(sign, kind);
    }

    // ---- the street

    public int street(int v) {
        if (v < SHORTEST || v > LONGEST) {
            return refused(WRONG);
        }
        int before = street.length;
        street.tellLength(v);
        dropSignsFrom(0);
        return before;
    }

    public int sign(int kind, int cell, int a, int b) {
        if (kind < 0 || kind >= KINDS || !street.hasCell(cell)) {
            return refused(NOBODY);
        }
        if (a < 1 || a > TEN || b < 0 || b > LAST_BYTE) {
            return refused(WRONG);
        }
        if (!street.hasRoomForSign()) {
            return refused(ROOM);
        }
        return street.addSign(kind, cell, a, b);
    }

    public int thing(int cell, boolean high, int left) {
        if (!street.hasCell(cell)) {
            return refused(NOBODY);
        }
        if (left < 1 || left > TEN) {
            return refused(WRONG);
        }
        if (!street.hasRoomForThing()) {
            return refused(ROOM);
        }
        return street.addThing(cell, high, left);
    }

    public int things(int s, int i, int n) {
        Shelf shelf = shelfAt(s);
        int trouble = rowTrouble(shelf);
        if (shelf == null || trouble != FINE) {
            return refused(trouble);
        }
        if (n < 0) {
            return refused(BELOW);
        }
        if (!shelf.hasRun(i, n)) {
            return refused(BEYOND);
        }
        if (n % 3 != 0) {
            return refused(WRONG);
        }
        int came = 0;
        while (came < n / 3 && addThingFrom(shelf, i + 3 * came)) {
            came++;
        }
        return came;
    }

    public int wander(int s, int t) {
        if (s < 0 || s > TEN || t < 0 || t > TEN - s) {
            return refused(WRONG);
        }
        int before = HUNDRED * street.stays + street.twos;
        street.stays = s;
        street.twos = t;
        return before;
    }

    public int ask(int what, int v) {
        switch (what) {
            case 0:
                return v < 0 || v > LAST_HOUR ? refused(WRONG) : askHour(v);
            case 1:
                return v < 0 || v > 1 ? refused(WRONG) : askSnow(v);
            case 2:
                return v < 1 || v > WIDEST_ARC ? refused(WRONG) : askArc(v);
            default:
                return refused(WRONG);
        }
    }

    public int signOf(int sign, int what) {
        Sign of = street.signAt(sign);
        if (of == null) {
            return refused(BEYOND);
        }
        switch (what) {
            case 0:
                return of.kind;
            case 1:
                return of.cell;
            case 2:
                return of.a;
            case 3:
                return of.b;
            default:
                return refused(BEYOND);
        }
    }

    public int thingOf(int thing, int what) {
        Thing of = street.thingAt(thing);
        if (of == null) {
            return refused(BEYOND);
        }
        switch (what) {
            case 0:
                return of.cell;
            case 1:
                return of.high ? 1 : 0;
            case 2:
                return of.left;
            default:
                return refused(BEYOND);
        }
    }

    public int clear(int thing) {
        if (street.thingAt(thing) == null) {
            return refused(NOBODY);
        }
        street.removeThing(thing);
        return street.thingCount;
    }

    public int town(int s) {
        Shelf shelf = shelfAt(s);
        int trouble = rowTrouble(shelf);
        if (shelf == null || trouble != FINE) {
            return refused(trouble);
        }
        trial.becomeLike(street);
        Reader reader = new Reader(shelf, trial);
        int items = reader.readItems();
        latestFault = reader.fault;
        if (latestFault != NONE) {
            return refused(WRONG);
        }
        trial.knowNothing();
        street.becomeLike(trial);
        if (reader.toldLength) {
            dropSignsFrom(0);
        }
        return items;
    }

    public int fault() {
        return latestFault;
    }

    // ---- where he is

    public int lost(int cell) {
        if (cell != NONE && !street.hasCell(cell)) {
            return refused(NOBODY);
        }
        int before = street.news;
        if (cell == NONE) {
            street.knowNothing();
        } else {
            street.knowCell(cell);
        }
        return before;
    }

    public long odds(int cell) {
        if (cell == NONE) {
            return street.odds.all();
        }
        return street.hasCell(cell) ? street.odds.at(cell) : refused(NOBODY);
    }

    public int strength(int sign, int cell) {
        Sign of = street.signAt(sign);
        if (of == null || !street.hasCell(cell)) {
            return refused(NOBODY);
        }
        return street.tenthsOf(of, cell);
    }

    public int step(boolean back) {
        if (street.news >= MOST_NEWS) {
            return refused(ROOM);
        }
        street.hearStep(back);
        return street.news;
    }

    public int feel(int sign, boolean is) {
        Sign felt = street.signAt(sign);
        if (felt == null) {
            return refused(NOBODY);
        }
        if (!street.canBe(felt, is)) {
            return refused(WRONG);
        }
        if (street.news >= MOST_NEWS) {
            return refused(ROOM);
        }
        street.hearSign(felt, is);
        return street.news;
    }

    public int where() {
        return street.odds.surest();
    }

    public int isLost() {
        Odds odds = street.odds;
        return 2 * odds.at(odds.surest()) < odds.all() ? 1 : 0;
    }

    public int judge(int s, int n) {
        Shelf shelf = shelfAt(s);
        int trouble = newsTrouble(shelf, n);
        if (shelf == null || trouble != FINE) {
            return refused(trouble);
        }
        return tryNews(shelf, n);
    }

    public int told(int s, int n) {
        Shelf shelf = shelfAt(s);
        int trouble = newsTrouble(shelf, n);
        if (shelf == null || trouble != FINE) {
            return refused(trouble);
        }
        if (tryNews(shelf, n) != NONE) {
            return refused(WRONG);
        }
        return trial.odds.surest();
    }

    // ---- what is made of it

    public long worth(int signs) {
        if (signs < 0 || signs >> street.signCount != 0) {
            return refused(NOBODY);
        }
        if (street.news + Integer.bitCount(signs) > MOST_NEWS_WEIGHED) {
            return refused(ROOM);
        }
        outlook.lookFrom(street);
        return outlook.worthOf(signs);
    }

    public int next() {
        if (street.signCount == 0) {
            return refused(BEYOND);
        }
        if (street.news + 1 > MOST_NEWS_WEIGHED) {
            return refused(ROOM);
        }
        outlook.lookFrom(street);
        return outlook.bestAlone();
    }

    public int ahead() {
        if (street.signCount == 0) {
            return refused(BEYOND);
        }
        if (street.news + 2 > MOST_NEWS_WEIGHED) {
            return refused(ROOM);
        }
        outlook.lookFrom(street);
        return outlook.bestOfTwo();
    }

    public int least(int t) {
        if (t < 0 || t > TEN) {
            return refused(WRONG) + ASIDE;
        }
        if (street.news > MOST_NEWS_FOR_LEAST) {
            return refused(ROOM) + ASIDE;
        }
        outlook.lookFrom(street);
        return outlook.fewestFor(t, street.odds.all());
    }

    public long safe(int from, int to) {
        if (!street.hasCell(from) || !street.hasCell(to)) {
            return refused(NOBODY);
        }
        return street.safeBut(from, to, 0);
    }

    public int first(int from, int to) {
        if (!street.hasCell(from) || !street.hasCell(to)) {
            return refused(NOBODY);
        }
        int best = street.firstBut(from, to, 0);
        return best == NONE ? refused(BEYOND) : best;
    }

    public int order(int from, int to, int i) {
        if (!street.hasCell(from) || !street.hasCell(to)) {
            return refused(NOBODY);
        }
        int best = street.orderedAt(from, to, i);
        return best == NONE ? refused(BEYOND) : best;
    }

    public int over(int w, int l, int r, int k) {
        if (w < 1 || w > WIDEST_ROAD || l < 0 || l > TEN || r < 0 || r > TEN - l || k < -w || k > w) {
            return refused(WRONG);
        }
        return (int) driftedBy(w, l, r, k);
    }

    public int learnt(int n, int m) {
        if (n < 0 || n > MOST_GOINGS || m < 0 || m > MOST_GOINGS) {
            return refused(WRONG);
        }
        return knownOfHundred(n, m);
    }

    public int goings(int p, int m) {
        if (p < 0 || p > HUNDRED || m < 0 || m > MOST_GOINGS) {
            return refused(WRONG) + ASIDE;
        }
        for (int n = 0; n <= MOST_GOINGS; n++) {
            if (knownOfHundred(n, m) >= p) {
                return n;
            }
        }
        return NONE;
    }

    // ---- in truth

    public int begin(int cell) {
        if (!street.hasCell(cell)) {
            return refused(NOBODY);
        }
        int before = street.truth;
        street.truth = cell;
        return before;
    }

    public int goes(boolean back) {
        if (street.truth == NONE) {
            return refused(WRONG);
        }
        if (street.news >= MOST_NEWS) {
            return refused(ROOM);
        }
        street.seed = seedBehind(street.seed);
        int drawn = drawOf(street.seed);
        int cells = drawn < street.stays ? 0 : drawn < street.stays + street.twos ? 2 : 1;
        street.truth = street.reach(street.truth, back ? -cells : cells);
        street.hearStep(back);
        return cells;
    }

    public int looks(int sign) {
        Sign lookedFor = street.signAt(sign);
        if (lookedFor == null) {
            return refused(NOBODY);
        }
        if (street.truth == NONE) {
            return refused(WRONG);
        }
        // A refused look leaves SEED as it is, so the draw is kept aside until nothing can refuse it.
        int seedThen = seedBehind(street.seed);
        boolean is = drawOf(seedThen) < street.tenthsOf(lookedFor, street.truth);
        if (!street.canBe(lookedFor, is)) {
            return refused(WRONG);
        }
        if (street.news >= MOST_NEWS) {
            return refused(ROOM);
        }
        street.seed = seedThen;
        street.hearSign(lookedFor, is);
        return is ? 1 : 0;
    }

    public int right() {
        if (street.truth == NONE) {
            return refused(WRONG);
        }
        return street.truth == street.odds.surest() ? 1 : 0;
    }

    public int seed(int v) {
        int before = street.seed;
        street.seed = v;
        return before;
    }

    // ---- acts, the image, how many

    public int act(int sign, int act, int x) {
        ran.wipe();
        Sign actor = street.signAt(sign);
        if (actor == null || act < 0 || act >= ACTS) {
            return 0;
        }
        return perform(actor, actor.kind, act, x, ran, 0);
    }

    public int trace(int i) {
        return ran.bodyAt(i);
    }

    public int image() {
        kept.becomeLike(street);
        isKept = true;
        return street.signCount;
    }

    public int restore() {
        if (!isKept) {
            return refused(WRONG);
        }
        street.becomeLike(kept);
        dropSignsFrom(street.signCount);
        return street.signCount;
    }

    public int status(int what) {
        switch (what) {
            case 0:
                return street.length;
            case 1:
                return street.signCount;
            case 2:
                return street.thingCount;
            case 3:
                return street.news;
            case 4:
                return street.steps;
            case 5:
                return street.hour;
            case 6:
                return street.snow ? 1 : 0;
            case 7:
                return street.arc;
            case 8:
                return ran.began;
            case 9:
                return street.seed;
            default:
                return refusalsOf(TEN - what);
        }
    }

    // ---- refusals

    /** Counts a refusal and hands its number on, so that a call can answer with it. */
    private int refused(int number) {
        int at = -number;
        if (at > 0 && at < refusals.length) {
            refusals[at]++;
        }
        return number;
    }

    private int refusalsOf(int number) {
        int at = -number;
        return at > 0 && at < refusals.length ? refusals[at] : NONE;
    }

    private static int rowTrouble(Shelf shelf) {
        if (shelf == null) {
            return NOBODY;
        }
        if (shelf.holdsRow()) {
            return FINE;
        }
        return shelf.held == NONE ? NOTHING : OTHER;
    }

    private static int pairTrouble(Shelf from, Shelf to) {
        if (from == null || to == null) {
            return NOBODY;
        }
        int ofFrom = rowTrouble(from);
        int ofTo = rowTrouble(to);
        if (ofFrom == OTHER || ofTo == OTHER) {
            return OTHER;
        }
        if (ofFrom == NOTHING || ofTo == NOTHING) {
            return NOTHING;
        }
        return from.held == to.held ? FINE : OTHER;
    }

    private static int newsTrouble(Shelf shelf, int n) {
        int trouble = rowTrouble(shelf);
        if (shelf == null || trouble != FINE) {
            return trouble;
        }
        if (n < 0) {
            return BELOW;
        }
        if (!shelf.hasRun(0, n)) {
            return BEYOND;
        }
        return n > MOST_NEWS ? WRONG : FINE;
    }

    // ---- helpers of the calls

    private Shelf shelfAt(int s) {
        return s < 0 || s >= SHELVES ? null : shelves[s];
    }

    /** SHELVES with SIGNS of this number or above hold NOTHING then. */
    private void dropSignsFrom(int number) {
        for (int s = 0; s < SHELVES; s++) {
            Shelf shelf = shelves[s];
            if (shelf != null && !shelf.holdsRow() && shelf.held >= number) {
                shelf.takeSign(NONE);
            }
        }
    }

    private boolean addThingFrom(Shelf shelf, int i) {
        int cell = shelf.intAt(i);
        boolean high = shelf.intAt(i + 1) != 0;
        int left = shelf.intAt(i + 2);
        if (!street.hasCell(cell) || left < 1 || left > TEN || !street.hasRoomForThing()) {
            return false;
        }
        street.addThing(cell, high, left);
        return true;
    }

    private int askHour(int v) {
        int before = street.hour;
        street.hour = v;
        return before;
    }

    private int askSnow(int v) {
        int before = street.snow ? 1 : 0;
        street.snow = v == 1;
        return before;
    }

    private int askArc(int v) {
        int before = street.arc;
        street.arc = v;
        return before;
    }

    /** The place at which the news of a ROW can't go on, NONE if all are heard; heard by the trial street alone. */
    private int tryNews(Shelf shelf, int n) {
        trial.becomeLike(street);
        for (int i = 0; i < n; i++) {
            if (!trial.hears(shelf.intAt(i))) {
                return i;
            }
        }
        return NONE;
    }

    /** The odds of k cells to the right, from a row of all places that the steps so far can end at. */
    private long driftedBy(int w, int l, int r, int k) {
        Arrays.fill(drifts, 0L);
        drifts[0] = 1L;
        int straight = TEN - l - r;
        for (int step = 0; step < w; step++) {
            // From the right end on, as the odds to the left must still be those of the steps before.
            for (int at = drifts.length - 1; at >= 0; at--) {
                drifts[at] = l * driftAt(at) + straight * driftAt(at - 1) + r * driftAt(at - 2);
            }
        }
        return driftAt(w + k);
    }

    private long driftAt(int at) {
        return at < 0 || at >= drifts.length ? 0L : drifts[at];
    }

    private static int knownOfHundred(int n, int m) {
        int unknown = HUNDRED;
        for (int going = 0; going < n && unknown > 0; going++) {
            unknown = unknown * 3 / 4;
        }
        int known = HUNDRED - unknown;
        for (int week = 0; week < m && known > 0; week++) {
            known -= (known + TEN - 1) / TEN;
        }
        return known;
    }

    private static int seedBehind(int seed) {
        return seed * 1103515245 + 12345;
    }

    private static int drawOf(int seed) {
        return (seed >>> 16) % TEN;
    }

    /** The nearest KIND, from one on upwards, that has a body for an ACT. */
    private static int kindWithBody(int from, int act) {
        int kind = from;
        for (int level = 0; level < KINDS && kind > SIGN && kind < KINDS; level++) {
            if (bodyOf(kind, act) != 0) {
                return kind;
            }
            kind = ABOVE[kind];
        }
        return SIGN;
    }

    private static int bodyOf(int kind, int act) {
        int at = kind * ACTS + act;
        return at < 0 || at >= BODIES.length ? 0 : BODIES[at];
    }

    /** Runs an ACT's body as the KIND from has it: its own, or that of the next KIND above. */
    private static int perform(Sign sign, int from, int act, int x, Trace ran, int depth) {
        if (depth > KINDS * ACTS) {
            return 0;
        }
        int kind = kindWithBody(from, act);
        int above = kind > SIGN && kind < KINDS ? ABOVE[kind] : SIGN;
        int body = bodyOf(kind, act);
        int deeper = depth + 1;
        ran.add(body);
        switch (body) {
            case 10:
                return x + sign.number;
            case 11:
                return perform(sign, sign.kind, FEELS, x, ran, deeper) * 2;
            case 12:
                return perform(sign, sign.kind, TEACHES, x, ran, deeper)
                    ^ perform(sign, sign.kind, FEELS, x - sign.b, ran, deeper);
            case 20:
                return perform(sign, above, FEELS, x, ran, deeper) + sign.b;
            case 30:
                return perform(sign, above, TEACHES, x, ran, deeper) * 3;
            case 40:
                return perform(sign, above, TEACHES, x + 1, ran, deeper);
            case 41:
                return perform(sign, above, FADES, x, ran, deeper) - sign.number;
            case 50:
                return -perform(sign, above, FADES, x, ran, deeper);
            case 60:
                return perform(sign, above, FADES, x, ran, deeper) ^ 5;
            case 70:
                return perform(sign, above, FEELS, x, ran, deeper) * 2;
            case 71:
                return perform(sign, above, TEACHES, x - sign.b, ran, deeper);
            default:
                return 0;
        }
    }

    /** Holds NOTHING (NONE), a SIGN (its number) or a ROW (100 and its SORT). */
    private static final class Shelf {
        int held = NONE;
        int size = 0;
        final long[] elements = new long[MOST_ELEMENTS];

        boolean holdsRow() {
            return held >= ROW_MARK;
        }

        void takeRow(int sort, int n) {
            held = ROW_MARK + sort;
            size = n;
            Arrays.fill(elements, 0L);
        }

        void takeSign(int number) {
            held = number;
            size = 0;
        }

        boolean hasRun(int i, int n) {
            return n >= 0 && n <= size && i >= 0 && i <= size - n;
        }

        long valueAt(int i) {
            return i < 0 || i >= size || i >= MOST_ELEMENTS ? 0L : elements[i];
        }

        int intAt(int i) {
            return i < 0 || i >= size || i >= MOST_ELEMENTS ? 0 : (int) elements[i];
        }

        void put(int i, long v) {
            if (i >= 0 && i < MOST_ELEMENTS) {
                elements[i] = lowestBits(v);
            }
        }

        private long lowestBits(long v) {
            switch (held - ROW_MARK) {
                case 0:
                    return (byte) v;
                case 1:
                    return (short) v;
                case 2:
                    return (int) v;
                default:
                    return v;
            }
        }
    }

    /** Never changed once made, so that streets and their images can share it. */
    private static final class Sign {
        final int number;
        final int kind;
        final int cell;
        final int a;
        final int b;

        Sign(int number, int kind, int cell, int a, int b) {
            this.number = number;
            this.kind = kind;
            this.cell = cell;
            this.a = a;
            this.b = b;
        }

        boolean isOf(int wanted) {
            int at = kind;
            for (int level = 0; level < KINDS && at >= 0 && at < KINDS; level++) {
                if (at == wanted) {
                    return true;
                }
                at = ABOVE[at];
            }
            return false;
        }
    }

    /** Never changed once made, so that streets and their images can share it. */
    private static final class Thing {
        final int cell;
        final boolean high;
        final int left;

        Thing(int cell, boolean high, int left) {
            this.cell = cell;
            this.high = high;
            this.left = left;
        }
    }

    /** ODDS of the CELLS; those of cells beyond the street are 0, so that loops may run over all. */
    private static final class Odds {
        /** Euclid's way with two longs takes fewer turns than this. */
        private static final int MOST_TURNS = 200;

        private final long[] weights = new long[LONGEST];
        private final long[] moved = new long[LONGEST];

        void becomeLike(Odds other) {
            System.arraycopy(other.weights, 0, weights, 0, LONGEST);
        }

        void becomeEven(int cells) {
            for (int c = 0; c < LONGEST; c++) {
                weights[c] = c < cells ? 1L : 0L;
            }
        }

        void becomeSure(int cell) {
            for (int c = 0; c < LONGEST; c++) {
                weights[c] = c == cell ? 1L : 0L;
            }
        }

        long at(int cell) {
            return cell < 0 || cell >= LONGEST ? 0L : weights[cell];
        }

        long all() {
            long sum = 0L;
            for (int c = 0; c < LONGEST; c++) {
                sum += weights[c];
            }
            return sum;
        }

        int surest() {
            int best = 0;
            for (int c = 1; c < LONGEST; c++) {
                if (weights[c] > weights[best]) {
                    best = c;
                }
            }
            return best;
        }

        void multiply(int cell, int by) {
            if (cell >= 0 && cell < LONGEST) {
                weights[cell] *= by;
            }
        }

        void move(int from, int to, int times) {
            if (to >= 0 && to < LONGEST) {
                moved[to] += at(from) * times;
            }
        }

        void endMoves() {
            System.arraycopy(moved, 0, weights, 0, LONGEST);
            Arrays.fill(moved, 0L);
        }

        void lessen() {
            long common = 0L;
            for (int c = 0; c < LONGEST && common != 1L; c++) {
                common = commonPart(common, weights[c]);
            }
            for (int c = 0; c < LONGEST && common > 1L; c++) {
                weights[c] /= common;
            }
        }

        private static long commonPart(long one, long other) {
            long a = one;
            long b = other;
            for (int turn = 0; turn < MOST_TURNS && b != 0L; turn++) {
                long rest = a % b;
                a = b;
                b = rest;
            }
            return a;
        }
    }

    /** All that THE IMAGE keeps: the street, what he knows, and where he is in truth. */
    private static final class Street {
        int length = 12;
        int stays = 1;
        int twos = 1;
        int hour = 0;
        boolean snow = false;
        int arc = 5;
        private final Sign[] signs = new Sign[MOST_SIGNS];
        int signCount = 0;
        private final Thing[] things = new Thing[MOST_THINGS];
        int thingCount = 0;
        final Odds odds = new Odds();
        int steps = 0;
        int news = 0;
        int truth = NONE;
        int seed = 1;

        Street() {
            odds.becomeEven(length);
        }

        void becomeLike(Street other) {
            length = other.length;
            stays = other.stays;
            twos = other.twos;
            hour = other.hour;
            snow = other.snow;
            arc = other.arc;
            for (int i = 0; i < MOST_SIGNS; i++) {
                signs[i] = other.signs[i];
            }
            signCount = other.signCount;
            for (int i = 0; i < MOST_THINGS; i++) {
                things[i] = other.things[i];
            }
            thingCount = other.thingCount;
            odds.becomeLike(other.odds);
            steps = other.steps;
            news = other.news;
            truth = other.truth;
            seed = other.seed;
        }

        // -- what there is

        void tellLength(int cells) {
            length = cells;
            signCount = 0;
            thingCount = 0;
            truth = NONE;
            knowNothing();
        }

        boolean hasCell(int cell) {
            return cell >= 0 && cell < length;
        }

        boolean hasRoomForSign() {
            return signCount < MOST_SIGNS;
        }

        boolean hasRoomForThing() {
            return thingCount < MOST_THINGS;
        }

        Sign signAt(int number) {
            return number < 0 || number >= signCount || number >= MOST_SIGNS ? null : signs[number];
        }

        Thing thingAt(int number) {
            return number < 0 || number >= thingCount || number >= MOST_THINGS ? null : things[number];
        }

        int addSign(int kind, int cell, int a, int b) {
            int number = signCount;
            if (number >= 0 && number < MOST_SIGNS) {
                signs[number] = new Sign(number, kind, cell, a, b);
                signCount++;
            }
            return number;
        }

        int addThing(int cell, boolean high, int left) {
            int number = thingCount;
            if (number >= 0 && number < MOST_THINGS) {
                things[number] = new Thing(cell, high, left);
                thingCount++;
            }
            return number;
        }

        void removeThing(int number) {
            for (int i = Math.max(number, 0); i + 1 < thingCount && i + 1 < MOST_THINGS; i++) {
                things[i] = things[i + 1];
            }
            thingCount--;
        }

        /** The CELL that is so many further on (below 0: back), no farther than the end of the street. */
        int reach(int cell, int by) {
            return Math.max(0, Math.min(length - 1, cell + by));
        }

        // -- the signs

        int otherCellOf(Sign sign) {
            return length > 0 ? sign.b % length : NONE;
        }

        int tenthsOf(Sign sign, int cell) {
            int there = cell == sign.cell ? sign.a : 0;
            switch (sign.kind) {
                case FELT:
                    return snow ? 0 : there;
                case SLOPE:
                    return snow ? there / 2 : there;
                case FALSE:
                    return snow ? 0 : cell == otherCellOf(sign) ? sign.a : there;
                case SOUND:
                    return loudness(sign, cell);
                case SMELT:
                    return (sign.b >> hour & 1) == 1 ? loudness(sign, cell) : 0;
                case COUNT:
                    return steps == sign.b ? sign.a : 0;
                default:
                    return there;
            }
        }

        private static int loudness(Sign sign, int cell) {
            int away = Math.abs(cell - sign.cell);
            return away == 0 ? sign.a : away == 1 ? sign.a / 2 : 0;
        }

        int saidBy(Sign sign, int kind) {
            switch (kind) {
                case FELT:
                case SLOPE:
                    return tenthsOf(sign, sign.cell);
                case SOUND:
                    return sign.a / 2;
                case SMELT:
                    return Integer.bitCount(sign.b);
                case COUNT:
                    return Math.max(0, sign.b - steps);
                case FALSE:
                    return otherCellOf(sign);
                default:
                    return sign.a;
            }
        }

        // -- what he knows

        void knowNothing() {
            odds.becomeEven(length);
            news = 0;
            steps = 0;
        }

        void knowCell(int cell) {
            odds.becomeSure(cell);
            news = 0;
            steps = 0;
        }

        void hearStep(boolean back) {
            int way = back ? -1 : 1;
            for (int c = 0; c < length; c++) {
                odds.move(c, c, stays);
                odds.move(c, reach(c, way), TEN - stays - twos);
                odds.move(c, reach(c, 2 * way), twos);
            }
            odds.endMoves();
            odds.lessen();
            steps++;
            news++;
        }

        boolean canBe(Sign sign, boolean is) {
            for (int c = 0; c < length; c++) {
                if (odds.at(c) > 0L && timesOf(sign, c, is) > 0) {
                    return true;
                }
            }
            return false;
        }

        void hearSign(Sign sign, boolean is) {
            for (int c = 0; c < length; c++) {
                odds.multiply(c, timesOf(sign, c, is));
            }
            odds.lessen();
            news++;
        }

        private int timesOf(Sign sign, int cell, boolean is) {
            int tenths = tenthsOf(sign, cell);
            return is ? tenths : TEN - tenths;
        }

        /** One of judge()'s news: false, and nothing heard, if it can't go on so. */
        boolean hears(int told) {
            if (news >= MOST_NEWS) {
                return false;
            }
            if (told == 0 || told == 1) {
                hearStep(told == 1);
                return true;
            }
            boolean is = told >= 10 && told < 20;
            Sign sign = signAt(is ? told - 10 : told - 20);
            if (sign == null || !canBe(sign, is)) {
                return false;
            }
            hearSign(sign, is);
            return true;
        }

        // -- walks; gone: bits of the THINGS that are thought away

        private boolean standsOnWalk(int number, int from, int to, int gone) {
            Thing thing = thingAt(number);
            return thing != null && (gone >> number & 1) == 0
                && thing.cell >= Math.min(from, to) && thing.cell <= Math.max(from, to);
        }

        private int missedOfHundred(int number) {
            Thing thing = thingAt(number);
            return thing == null ? HUNDRED : HUNDRED - thing.left * (thing.high ? TEN : TEN - arc);
        }

        long safeBut(int from, int to, int gone) {
            long product = 1L;
            for (int i = 0; i < thingCount; i++) {
                if (standsOnWalk(i, from, to, gone)) {
                    product *= missedOfHundred(i);
                }
            }
            return product;
        }

        int firstBut(int from, int to, int gone) {
            int best = NONE;
            long safest = -1L;
            for (int i = 0; i < thingCount; i++) {
                if (standsOnWalk(i, from, to, gone)) {
                    long safe = safeBut(from, to, gone | 1 << i);
                    if (safe > safest) {
                        best = i;
                        safest = safe;
                    }
                }
            }
            return best;
        }

        int orderedAt(int from, int to, int place) {
            int gone = 0;
            for (int i = 0; i < thingCount && place >= 0; i++) {
                int best = firstBut(from, to, gone);
                if (i == place || best == NONE) {
                    return best;
                }
                gone |= 1 << best;
            }
            return NONE;
        }
    }

    /** WORTH of sets of SIGNS, weighed from the ODDS and STRENGTHS as they were when it looked. */
    private static final class Outlook {
        private final int[][] tenths = new int[MOST_SIGNS][LONGEST];
        /** Row d: the ODDS behind the answers to d SIGNS. */
        private final long[][] weights = new long[MOST_SIGNS + 1][LONGEST];
        private int signCount = 0;
        private int cells = 0;

        void lookFrom(Street street) {
            signCount = street.signCount;
            cells = street.length;
            for (int c = 0; c < LONGEST; c++) {
                weights[0][c] = street.odds.at(c);
            }
            for (int i = 0; i < MOST_SIGNS; i++) {
                Sign sign = street.signAt(i);
                for (int c = 0; c < LONGEST && sign != null; c++) {
                    tenths[i][c] = street.tenthsOf(sign, c);
                }
            }
        }

        long worthOf(int signs) {
            return worthBehind(this, signs, 0);
        }

        int bestAlone() {
            int best = NONE;
            long most = -1L;
            for (int i = 0; i < signCount; i++) {
                long worth = worthBehind(this, 1 << i, 0);
                if (worth > most) {
                    best = i;
                    most = worth;
                }
            }
            return best;
        }

        int bestOfTwo() {
            int best = NONE;
            long most = -1L;
            for (int i = 0; i < signCount; i++) {
                weigh(0, i, true);
                long worth = bestMoreBut(i);
                weigh(0, i, false);
                worth += bestMoreBut(i);
                if (worth > most) {
                    best = i;
                    most = worth;
                }
            }
            return best;
        }

        /** The greatest WORTH of one more SIGN behind the answer that stands in row 1. */
        private long bestMoreBut(int looked) {
            long most = TEN * greatest(1);
            for (int i = 0; i < signCount; i++) {
                if (i != looked) {
                    most = Math.max(most, worthBehind(this, 1 << i, 1));
                }
            }
            return most;
        }

        int fewestFor(int t, long all) {
            for (int size = 0; size <= signCount; size++) {
                for (int signs = 0; signs < 1 << signCount; signs++) {
                    if (Integer.bitCount(signs) == size && reaches(signs, size, t, all)) {
                        return signs;
                    }
                }
            }
            return NONE;
        }

        private boolean reaches(int signs, int size, int t, long all) {
            long worth = worthBehind(this, signs, 0);
            if (size == 0) {
                return worth * TEN >= t * all;
            }
            // One of the tens cancels the tenths: with all of them a long would run over.
            long wanted = t * all;
            for (int i = 1; i < size; i++) {
                wanted *= TEN;
            }
            return worth >= wanted;
        }

        /** The sum of the greatest weights over all answers to a set of SIGNS, behind those of a row. */
        private static long worthBehind(Outlook on, int signs, int depth) {
            if (signs == 0 || depth >= MOST_SIGNS) {
                return on.greatest(depth);
            }
            int sign = lowestOf(signs);
            int others = signs & signs - 1;
            // An answer that can't be adds nothing, however the others are answered.
            long sum = on.weigh(depth, sign, true) ? worthBehind(on, others, depth + 1) : 0L;
            return on.weigh(depth, sign, false) ? sum + worthBehind(on, others, depth + 1) : sum;
        }

        private static int lowestOf(int signs) {
            int sign = 0;
            while (sign < MOST_SIGNS - 1 && (signs >> sign & 1) == 0) {
                sign++;
            }
            return sign;
        }

        /** The next row becomes this one by an answer to a SIGN: whether any odds are left. */
        private boolean weigh(int depth, int sign, boolean is) {
            if (depth < 0 || depth >= MOST_SIGNS || sign < 0 || sign >= MOST_SIGNS) {
                return false;
            }
            long[] from = weights[depth];
            long[] to = weights[depth + 1];
            int[] there = tenths[sign];
            long any = 0L;
            for (int c = 0; c < cells && c < LONGEST; c++) {
                to[c] = from[c] * (is ? there[c] : TEN - there[c]);
                any |= to[c];
            }
            return any != 0L;
        }

        private long greatest(int depth) {
            if (depth < 0 || depth > MOST_SIGNS) {
                return 0L;
            }
            long[] row = weights[depth];
            long most = 0L;
            for (int c = 0; c < cells && c < LONGEST; c++) {
                if (row[c] > most) {
                    most = row[c];
                }
            }
            return most;
        }
    }

    /** Reads a STREET from a ROW of letters onto a street, as far as there is no FAULT. */
    private static final class Reader {
        private static final int MOST_DIGITS = 3;
        private static final int NO_LETTER = -1;

        private final Shelf text;
        private final Street onto;
        private int at = 0;
        int fault = NONE;
        boolean toldLength = false;

        Reader(Shelf text, Street onto) {
            this.text = text;
            this.onto = onto;
        }

        /** How many ITEMS were read up to the end, or up to the FAULT. */
        int readItems() {
            int items = 0;
            for (int turn = 0; turn <= MOST_ELEMENTS && fault == NONE; turn++) {
                readItem();
                if (fault == NONE) {
                    items++;
                    if (at >= text.size) {
                        return items;
                    }
                    pass(';');
                }
            }
            return items;
        }

        private int letter() {
            return at < text.size && at < MOST_ELEMENTS ? (int) text.elements[at] : NO_LETTER;
        }

        private void pass(int wanted) {
            if (letter() == wanted) {
                at++;
            } else {
                fault = at;
            }
        }

        private void readItem() {
            int begins = at;
            int initial = letter();
            readWord(wordWith(initial));
            if (fault != NONE) {
                return;
            }
            switch (initial) {
                case 'l':
                    readLength();
                    break;
                case 's':
                    readSign(begins);
                    break;
                case 't':
                    readThing(begins);
                    break;
                case 'w':
                    readWander();
                    break;
                case 'a':
                    onto.arc = readNumber(1, WIDEST_ARC);
                    break;
                default:
                    onto.hour = readNumber(0, LAST_HOUR);
                    break;
            }
        }

        /** No two words have the same first letter. */
        private static String wordWith(int initial) {
            switch (initial) {
                case 'l':
                    return "long";
                case 's':
                    return "sign";
                case 't':
                    return "thing";
                case 'w':
                    return "wander";
                case 'a':
                    return "arc";
                case 'h':
                    return "hour";
                default:
                    return "";
            }
        }

        private void readWord(String word) {
            if (word.isEmpty()) {
                fault = at;
            }
            for (int i = 0; i < word.length() && fault == NONE; i++) {
                pass(word.charAt(i));
            }
        }

        private void readLength() {
            int cells = readNumber(SHORTEST, LONGEST);
            if (fault == NONE) {
                onto.tellLength(cells);
                toldLength = true;
            }
        }

        private void readSign(int begins) {
            if (!onto.hasRoomForSign()) {
                fault = begins;
            }
            int kind = readNumber(0, KINDS - 1);
            int cell = readNumber(0, onto.length - 1);
            int a = readNumber(1, TEN);
            int b = readNumber(0, LAST_BYTE);
            if (fault == NONE) {
                onto.addSign(kind, cell, a, b);
            }
        }

        private void readThing(int begins) {
            if (!onto.hasRoomForThing()) {
                fault = begins;
            }
            int cell = readNumber(0, onto.length - 1);
            int high = readNumber(0, 1);
            int left = readNumber(1, TEN);
            if (fault == NONE) {
                onto.addThing(cell, high == 1, left);
            }
        }

        private void readWander() {
            int stays = readNumber(0, TEN);
            int twos = readNumber(0, TEN - stays);
            onto.stays = stays;
            onto.twos = twos;
        }

        /** A blank and a NUMBER; once there is a FAULT nothing more is read. */
        private int readNumber(int least, int most) {
            if (fault == NONE) {
                pass(' ');
            }
            if (fault != NONE) {
                return least;
            }
            int begins = at;
            int number = 0;
            for (int digits = 0; digits < MOST_DIGITS && letter() >= '0' && letter() <= '9'; digits++) {
                number = 10 * number + letter() - '0';
                at++;
            }
            if (at == begins || number < least || number > most) {
                fault = begins;
            }
            return number;
        }
    }

    /** The bodies that ran in the latest act(), the first of them by their numbers. */
    private static final class Trace {
        private static final int MOST_KEPT = 20;

        private final int[] bodies = new int[MOST_KEPT];
        int began = 0;

        void wipe() {
            began = 0;
        }

        void add(int body) {
            if (began >= 0 && began < MOST_KEPT) {
                bodies[began] = body;
            }
            began++;
        }

        int bodyAt(int i) {
            return i < 0 || i >= began || i >= MOST_KEPT ? NONE : bodies[i];
        }
    }
}
