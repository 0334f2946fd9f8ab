import java.util.function.Supplier;

/** Edges of promises 1 to 8: a new object, and the shelves. */
public final class ShelvesEdgesTest extends Edge {
    private static final int[] NO_SHELVES = {-1, 8, 100, MIN, MAX};

    private ShelvesEdgesTest() {
    }

    public static void main(String[] args) {
        run(ShelvesEdgesTest.class);
    }

    // ---- promise 1: a new object

    @Says({"No SIGNS, no THINGS", "from 0 on"})
    static void promise01_noSignsNoThings() {
        AStreetByACane x = new AStreetByACane();
        is(0, x.status(1));
        is(0, x.status(2));
        is(-5, x.signOf(0, 0));
        is(-5, x.thingOf(0, 0));
        is(-1, x.feel(0, true));
        is(-1, x.clear(0));
        is(0, x.sign(0, 0, 1, 0));
        is(0, x.thing(0, true, 1));
    }

    @Says({"ODDS are 1 everywhere", "(1 each at first)", "LONG 2 to 24; 12 at first"})
    static void promise01_oddsAreOneInEachOfTwelveCells() {
        AStreetByACane x = new AStreetByACane();
        odds(x, 1, 1, 1, 1, 1, 1, 1, 1, 1, 1, 1, 1);
        is(-1, x.odds(12));
    }

    @Says("he isn't set down in truth")
    static void promise01_heIsNotSetDown() {
        refuses(-6, fresh(), x -> x.right());
        refuses(-6, fresh(), x -> x.goes(false));
        is(-1, new AStreetByACane().begin(0));
    }

    @Says("1 and 1 at first")
    static void promise01_wanderAtFirst() {
        is(101, new AStreetByACane().wander(0, 0));
    }

    @Says({"HOUR (0 to 7; 0 at first)", "SNOW or not (at first not)", "5 at first"})
    static void promise01_hourSnowAndArcAtFirst() {
        AStreetByACane x = new AStreetByACane();
        is(0, x.ask(0, 1));
        is(0, x.ask(1, 1));
        is(5, x.ask(2, 1));
    }

    @Says({"STEPS: how many he has gone (0 at first)", "SEED (1 at first)"})
    static void promise01_stepsNewsAndSeedAtFirst() {
        AStreetByACane x = new AStreetByACane();
        is(0, x.status(3));
        is(0, x.status(4));
        is(1, x.status(9));
    }

    @Says("hold NOTHING (at first)")
    static void promise01_shelvesHoldNothingAtFirst() {
        for (int s = 0; s < 8; s++) {
            int shelf = s;
            tells(-1, fresh(), x -> x.holds(shelf));
            refuses(-3, fresh(), x -> x.set(shelf, 0, 1));
        }
    }

    @Says("A new object")
    static void promise01_noImageNoFaultNoTraceNoRefusals() {
        refuses(-6, fresh(), x -> x.restore());
        tells(-1, fresh(), x -> x.fault());
        tells(-1, fresh(), x -> x.trace(0));
        tells(0, fresh(), x -> x.status(8));
        for (int what = 11; what <= 17; what++) {
            int counted = what;
            tells(0, fresh(), x -> x.status(counted));
        }
    }

    @Says("A new object")
    static void promise01_objectsShareNothing() {
        AStreetByACane one = new AStreetByACane();
        AStreetByACane other = new AStreetByACane();
        one.row(0, 0, 1);
        one.set(0, 0, 7);
        other.row(0, 0, 1);
        one.sign(0, 0, 1, 0);
        one.image();
        one.seed(5);
        one.set(9, 0, 0);
        is(0, other.element(0, 0));
        is(0, other.status(1));
        is(1, other.status(9));
        is(0, other.status(11));
        is(-6, other.restore());
    }

    /** "An object is used for at most 512 calls after it has been made": the last of them still answers. */
    @Says("A new object")
    static void promise01_theLastOf512CallsAnswers() {
        AStreetByACane x = new AStreetByACane();
        for (int call = 1; call <= 510; call += 2) {
            is(call == 1 ? 0 : 1, x.lost(0));
            is(1, x.step(false));
        }
        is(1, x.status(3));
        is(-1, x.row(8, 0, 0));
    }

    // ---- promise 2: row

    @Says({"SHELF s holds a new ROW: 1", "SHELVES 0 to 7"})
    static void promise02_theFirstAndTheLastShelf() {
        for (int s = 0; s < 8; s += 7) {
            int shelf = s;
            AStreetByACane x = ready(y -> y.row(shelf, 2, 3));
            does(1, fresh(), y -> y.row(shelf, 2, 3));
            is(102, x.holds(shelf));
            is(-1, x.holds(7 - shelf));
        }
    }

    @Says("0 to 160 elements, 0 at first")
    static void promise02_elementsAreZeroAtFirst() {
        AStreetByACane x = new AStreetByACane();
        x.row(0, 3, 160);
        for (int i = 0; i < 160; i++) {
            is(0, x.element(0, i));
        }
    }

    @Says("SHELF s holds a new ROW")
    static void promise02_aNewRowHasNothingOfTheOneBefore() {
        AStreetByACane x = new AStreetByACane();
        x.row(0, 3, 160);
        x.set(0, 0, -1);
        x.set(0, 159, -1);
        is(1, x.row(0, 3, 1));
        is(0, x.element(0, 0));
        is(-5, x.set(0, 1, 1));
        is(1, x.row(0, 3, 160));
        is(0, x.element(0, 0));
        is(0, x.element(0, 159));
        is(1, x.row(0, 0, 160));
        is(100, x.holds(0));
    }

    @Says("SHELF s holds a new ROW")
    static void promise02_aNewRowOverASign() {
        AStreetByACane x = ready(y -> putSign(y, 3));
        is(1, x.row(3, 1, 2));
        is(101, x.holds(3));
        is(1, x.status(1));
    }

    @Says("0 to 160 elements")
    static void promise02_fromNoneTo160Elements() {
        does(1, fresh(), x -> x.row(0, 0, 0));
        does(1, fresh(), x -> x.row(0, 3, 160));
        Supplier<AStreetByACane> none = with(x -> x.row(0, 0, 0));
        refuses(-5, none, x -> x.set(0, 0, 1));
        tells(0, none, x -> x.element(0, 0));
        Supplier<AStreetByACane> most = with(x -> x.row(0, 0, 160));
        does(1, most, x -> x.set(0, 159, 1));
        refuses(-5, most, x -> x.set(0, 160, 1));
    }

    @Says("1. -1;")
    static void promise02_minus1_noSuchShelf() {
        for (int s : NO_SHELVES) {
            refuses(-1, fresh(), x -> x.row(s, 0, 1));
        }
    }

    @Says({"-1; -4;", "-4 BELOW: a size below 0"})
    static void promise02_minus4_sizeBelow0() {
        Supplier<AStreetByACane> held = with(x -> put(x, 0, 1, 2));
        refuses(-4, held, x -> x.row(0, 0, -1));
        refuses(-4, held, x -> x.row(0, 0, MIN));
        does(1, held, x -> x.row(0, 0, 0));
    }

    @Says({"-6 SORT", "SORT (0 bytes, 1 shorts, 2 ints, 3 longs)"})
    static void promise02_minus6_noSuchSort() {
        Supplier<AStreetByACane> held = with(x -> put(x, 0, 1, 2));
        for (int sort : new int[] {-1, 4, 100, MIN, MAX}) {
            refuses(-6, held, x -> x.row(0, sort, 1));
        }
        for (int sort = 0; sort < 4; sort++) {
            int allowed = sort;
            does(1, held, x -> x.row(0, allowed, 1));
            is(100 + sort, ready(x -> x.row(0, allowed, 1)).holds(0));
        }
    }

    @Says("-7 n above 160")
    static void promise02_minus7_nAbove160() {
        Supplier<AStreetByACane> held = with(x -> put(x, 0, 1, 2));
        refuses(-7, held, x -> x.row(0, 0, 161));
        refuses(-7, held, x -> x.row(0, 3, MAX));
        does(1, held, x -> x.row(0, 0, 160));
    }

    @Says({"-1; -4", "the first that fits, in this order"})
    static void promise02_minus1_comesBefore_minus4() {
        refuses(-1, fresh(), x -> x.row(8, 0, -1));
        refuses(-1, fresh(), x -> x.row(-1, 0, -1));
    }

    @Says("-1; -4; -6 SORT")
    static void promise02_minus1_comesBefore_minus6() {
        refuses(-1, fresh(), x -> x.row(8, 4, 1));
        refuses(-1, fresh(), x -> x.row(-1, -1, 1));
    }

    @Says("-1; -4; -6 SORT; -7 n above 160")
    static void promise02_minus1_comesBefore_minus7() {
        refuses(-1, fresh(), x -> x.row(8, 0, 161));
    }

    @Says("-4; -6 SORT")
    static void promise02_minus4_comesBefore_minus6() {
        refuses(-4, fresh(), x -> x.row(0, 4, -1));
        refuses(-4, fresh(), x -> x.row(0, -1, -1));
    }

    @Says("-6 SORT; -7 n above 160")
    static void promise02_minus6_comesBefore_minus7() {
        refuses(-6, fresh(), x -> x.row(0, 4, 161));
        refuses(-6, fresh(), x -> x.row(0, -1, MAX));
    }

    // ---- promise 3: set

    private static final Supplier<AStreetByACane> SET = with(x -> {
        put(x, 0, 1, 2, 3);
        x.row(1, 0, 160);
        x.row(2, 0, 0);
        putSign(x, 3);
    });

    @Says("Element i of the ROW becomes v: 1")
    static void promise03_theFirstAndTheLastElement() {
        does(1, SET, x -> x.set(0, 0, 9));
        does(1, SET, x -> x.set(0, 2, 9));
        does(1, SET, x -> x.set(1, 159, 9));
        AStreetByACane x = SET.get();
        x.set(0, 0, 7);
        x.set(0, 2, 9);
        is(7, x.element(0, 0));
        is(2, x.element(0, 1));
        is(9, x.element(0, 2));
    }

    private static void keeps(int sort, long v, long kept) {
        AStreetByACane x = ready(y -> y.row(0, sort, 1));
        is(1, x.set(0, 0, v));
        is(kept, x.element(0, 0));
    }

    @Says({"what is put in keeps its lowest bits", "0 bytes"})
    static void promise03_bytesKeepTheirLowestBits() {
        keeps(0, 127, 127);
        keeps(0, 128, -128);
        keeps(0, -128, -128);
        keeps(0, -129, 127);
        keeps(0, 255, -1);
        keeps(0, 256, 0);
        keeps(0, Long.MAX_VALUE, -1);
        keeps(0, Long.MIN_VALUE, 0);
    }

    @Says({"what is put in keeps its lowest bits", "1 shorts"})
    static void promise03_shortsKeepTheirLowestBits() {
        keeps(1, 32767, 32767);
        keeps(1, 32768, -32768);
        keeps(1, -32768, -32768);
        keeps(1, -32769, 32767);
        keeps(1, 65535, -1);
        keeps(1, 65536, 0);
    }

    @Says({"what is put in keeps its lowest bits", "2 ints"})
    static void promise03_intsKeepTheirLowestBits() {
        keeps(2, MAX, MAX);
        keeps(2, MAX + 1L, MIN);
        keeps(2, MIN, MIN);
        keeps(2, MIN - 1L, MAX);
        keeps(2, 0xffffffffL, -1);
        keeps(2, 1L << 32, 0);
    }

    @Says({"what is put in keeps its lowest bits", "3 longs"})
    static void promise03_longsKeepAll() {
        keeps(3, Long.MAX_VALUE, Long.MAX_VALUE);
        keeps(3, Long.MIN_VALUE, Long.MIN_VALUE);
        keeps(3, 1L << 32, 1L << 32);
    }

    @Says("1. -1; -2; -3; -5.")
    static void promise03_minus1_noSuchShelf() {
        for (int s : NO_SHELVES) {
            refuses(-1, SET, x -> x.set(s, 0, 1));
        }
    }

    @Says("-2 OTHER: a SHELF that holds a SIGN where a ROW is wanted")
    static void promise03_minus2_aShelfWithASign() {
        refuses(-2, SET, x -> x.set(3, 0, 1));
    }

    @Says("-3 NOTHING: a SHELF that holds NOTHING")
    static void promise03_minus3_aShelfWithNothing() {
        refuses(-3, SET, x -> x.set(7, 0, 1));
    }

    @Says("-5 BEYOND: an element that isn't there")
    static void promise03_minus5_noSuchElement() {
        for (int i : new int[] {-1, 3, 4, 159, 160, MIN, MAX}) {
            refuses(-5, SET, x -> x.set(0, i, 1));
        }
        refuses(-5, SET, x -> x.set(1, 160, 1));
        refuses(-5, SET, x -> x.set(2, 0, 1));
    }

    @Says("-1; -2; -3; -5")
    static void promise03_minus1_comesBefore_minus5() {
        refuses(-1, SET, x -> x.set(8, -1, 1));
        refuses(-1, SET, x -> x.set(-1, 160, 1));
    }

    @Says("-2; -3; -5")
    static void promise03_minus2_comesBefore_minus5() {
        refuses(-2, SET, x -> x.set(3, -1, 1));
        refuses(-2, SET, x -> x.set(3, 160, 1));
    }

    @Says("-3; -5")
    static void promise03_minus3_comesBefore_minus5() {
        refuses(-3, SET, x -> x.set(7, -1, 1));
        refuses(-3, SET, x -> x.set(7, 160, 1));
    }

    // ---- promise 4: copy

    /** 0: ints 1 to 5; 1: three ints; 2: nine longs; 3: a SIGN; 4: no ints; 5: 160 ints; 7: NOTHING. */
    private static final Supplier<AStreetByACane> COPY = with(x -> {
        put(x, 0, 1, 2, 3, 4, 5);
        put(x, 1, 6, 7, 8);
        x.row(2, 3, 9);
        putSign(x, 3);
        x.row(4, 2, 0);
        x.row(5, 2, 160);
    });

    private static void elements(AStreetByACane x, int s, long... due) {
        for (int i = 0; i < due.length; i++) {
            is(due[i], x.element(s, i));
        }
    }

    @Says("come to elements j, j + 1, .. of that in q")
    static void promise04_upToBothEnds() {
        AStreetByACane x = COPY.get();
        is(1, x.copy(0, 1, 2, 0, 3));
        elements(x, 1, 3, 4, 5);
        elements(x, 0, 1, 2, 3, 4, 5);
        is(1, x.copy(0, 1, 0, 2, 1));
        elements(x, 1, 3, 4, 1);
        is(1, x.copy(5, 5, 0, 159, 1));
        is(1, x.copy(5, 5, 0, 0, 160));
    }

    @Says("(as they were ahead)")
    static void promise04_overItselfOnwardAndBack() {
        AStreetByACane x = COPY.get();
        is(1, x.copy(0, 0, 0, 1, 4));
        elements(x, 0, 1, 1, 2, 3, 4);
        x = COPY.get();
        is(1, x.copy(0, 0, 1, 0, 4));
        elements(x, 0, 2, 3, 4, 5, 5);
        tells(1, COPY, y -> y.copy(0, 0, 0, 0, 5));
    }

    @Says("n of them")
    static void promise04_noneOfThem() {
        tells(1, COPY, x -> x.copy(0, 1, 0, 0, 0));
        tells(1, COPY, x -> x.copy(0, 1, 5, 3, 0));
        tells(1, COPY, x -> x.copy(4, 4, 0, 0, 0));
        tells(1, COPY, x -> x.copy(4, 0, 0, 5, 0));
        tells(1, COPY, x -> x.copy(5, 5, 160, 160, 0));
    }

    @Says("1. -1; -2 also of two SORTS")
    static void promise04_minus1_noSuchShelf() {
        for (int s : NO_SHELVES) {
            refuses(-1, COPY, x -> x.copy(s, 0, 0, 0, 1));
            refuses(-1, COPY, x -> x.copy(0, s, 0, 0, 1));
            refuses(-1, COPY, x -> x.copy(s, s, 0, 0, 1));
        }
    }

    @Says("-2 OTHER: a SHELF that holds a SIGN where a ROW is wanted")
    static void promise04_minus2_aShelfWithASign() {
        refuses(-2, COPY, x -> x.copy(3, 0, 0, 0, 1));
        refuses(-2, COPY, x -> x.copy(0, 3, 0, 0, 1));
        refuses(-2, COPY, x -> x.copy(3, 3, 0, 0, 0));
    }

    @Says({"-2 also of two SORTS (when both hold something)", "ROWS of two SORTS"})
    static void promise04_minus2_twoSorts() {
        refuses(-2, COPY, x -> x.copy(0, 2, 0, 0, 1));
        refuses(-2, COPY, x -> x.copy(2, 0, 0, 0, 1));
        refuses(-2, COPY, x -> x.copy(0, 2, 0, 0, 0));
        for (int p = 0; p < 4; p++) {
            for (int q = 0; q < 4; q++) {
                int from = p;
                int to = q;
                Supplier<AStreetByACane> two = with(x -> {
                    x.row(0, from, 1);
                    x.row(1, to, 1);
                });
                if (p == q) {
                    does(1, two, x -> x.copy(0, 1, 0, 0, 1));
                } else {
                    refuses(-2, two, x -> x.copy(0, 1, 0, 0, 1));
                }
            }
        }
    }

    @Says("-3 either")
    static void promise04_minus3_eitherHoldsNothing() {
        refuses(-3, COPY, x -> x.copy(7, 0, 0, 0, 1));
        refuses(-3, COPY, x -> x.copy(0, 7, 0, 0, 1));
        refuses(-3, COPY, x -> x.copy(2, 7, 0, 0, 1));
        refuses(-3, COPY, x -> x.copy(7, 7, 0, 0, 0));
    }

    @Says("-4 n;")
    static void promise04_minus4_nBelow0() {
        refuses(-4, COPY, x -> x.copy(0, 1, 0, 0, -1));
        refuses(-4, COPY, x -> x.copy(0, 1, 1, 1, MIN));
        tells(1, COPY, x -> x.copy(0, 1, 0, 0, 0));
    }

    @Says("-5 i or j below 0")
    static void promise04_minus5_iOrJBelow0() {
        for (int below : new int[] {-1, MIN}) {
            refuses(-5, COPY, x -> x.copy(0, 1, below, 0, 1));
            refuses(-5, COPY, x -> x.copy(0, 1, 0, below, 1));
            refuses(-5, COPY, x -> x.copy(0, 1, below, 0, 0));
            refuses(-5, COPY, x -> x.copy(0, 1, 0, below, 0));
        }
    }

    @Says("or an end that isn't there")
    static void promise04_minus5_anEndThatIsNotThere() {
        refuses(-5, COPY, x -> x.copy(0, 5, 0, 0, 6));
        refuses(-5, COPY, x -> x.copy(0, 5, 3, 0, 3));
        refuses(-5, COPY, x -> x.copy(0, 5, 5, 0, 1));
        refuses(-5, COPY, x -> x.copy(5, 1, 0, 0, 4));
        refuses(-5, COPY, x -> x.copy(5, 1, 0, 1, 3));
        refuses(-5, COPY, x -> x.copy(5, 1, 0, 3, 1));
        refuses(-5, COPY, x -> x.copy(0, 1, 6, 0, 0));
        refuses(-5, COPY, x -> x.copy(0, 1, 0, 4, 0));
        refuses(-5, COPY, x -> x.copy(5, 5, 1, 0, 160));
        refuses(-5, COPY, x -> x.copy(5, 5, 0, 1, 160));
        refuses(-5, COPY, x -> x.copy(5, 5, 0, 0, 161));
        does(1, COPY, x -> x.copy(0, 5, 2, 157, 3));
    }

    @Says("or an end that isn't there")
    static void promise04_minus5_anEndThatWrapsAround() {
        refuses(-5, COPY, x -> x.copy(0, 1, MAX, 0, 1));
        refuses(-5, COPY, x -> x.copy(0, 1, 0, MAX, 1));
        refuses(-5, COPY, x -> x.copy(0, 1, MAX, MAX, MAX));
        refuses(-5, COPY, x -> x.copy(0, 1, 1, 1, MAX));
    }

    @Says("-1; -2 also of two SORTS")
    static void promise04_minus1_comesBefore_minus2() {
        refuses(-1, COPY, x -> x.copy(3, 8, 0, 0, 1));
        refuses(-1, COPY, x -> x.copy(-1, 3, 0, 0, 1));
    }

    @Says("-3 either")
    static void promise04_minus1_comesBefore_minus3() {
        refuses(-1, COPY, x -> x.copy(7, 8, 0, 0, 1));
        refuses(-1, COPY, x -> x.copy(-1, 7, 0, 0, 1));
    }

    @Says("-4 n;")
    static void promise04_minus1_comesBefore_minus4() {
        refuses(-1, COPY, x -> x.copy(0, 8, 0, 0, -1));
        refuses(-1, COPY, x -> x.copy(-1, 0, 0, 0, -1));
    }

    @Says("-5 i or j below 0")
    static void promise04_minus1_comesBefore_minus5() {
        refuses(-1, COPY, x -> x.copy(0, 8, -1, 0, 1));
        refuses(-1, COPY, x -> x.copy(-1, 0, 0, 9, 1));
    }

    @Says("-2 also of two SORTS (when both hold something); -3 either")
    static void promise04_minus2_comesBefore_minus3() {
        refuses(-2, COPY, x -> x.copy(3, 7, 0, 0, 1));
        refuses(-2, COPY, x -> x.copy(7, 3, 0, 0, 1));
    }

    @Says("-4 n;")
    static void promise04_minus2_comesBefore_minus4() {
        refuses(-2, COPY, x -> x.copy(3, 0, 0, 0, -1));
        refuses(-2, COPY, x -> x.copy(0, 2, 0, 0, -1));
    }

    @Says("-5 i or j below 0")
    static void promise04_minus2_comesBefore_minus5() {
        refuses(-2, COPY, x -> x.copy(0, 3, 9, 0, 1));
        refuses(-2, COPY, x -> x.copy(0, 2, -1, -1, 1));
    }

    @Says("-3 either; -4 n")
    static void promise04_minus3_comesBefore_minus4() {
        refuses(-3, COPY, x -> x.copy(7, 0, 0, 0, -1));
        refuses(-3, COPY, x -> x.copy(0, 7, 0, 0, -1));
    }

    @Says("-5 i or j below 0")
    static void promise04_minus3_comesBefore_minus5() {
        refuses(-3, COPY, x -> x.copy(7, 0, -1, 0, 1));
        refuses(-3, COPY, x -> x.copy(0, 7, 5, 0, 1));
    }

    @Says("-4 n; -5 i or j below 0")
    static void promise04_minus4_comesBefore_minus5() {
        refuses(-4, COPY, x -> x.copy(0, 1, -1, 0, -1));
        refuses(-4, COPY, x -> x.copy(0, 1, 0, 9, -1));
    }

    // ---- promise 5: element

    @Says("Element i of the ROW")
    static void promise05_theFirstAndTheLastElement() {
        tells(1, SET, x -> x.element(0, 0));
        tells(3, SET, x -> x.element(0, 2));
        Supplier<AStreetByACane> most = with(x -> {
            x.row(7, 3, 160);
            x.set(7, 159, Long.MIN_VALUE);
        });
        tells(Long.MIN_VALUE, most, x -> x.element(7, 159));
    }

    @Says("0 if there is none (nothing is refused)")
    static void promise05_noSuchElement() {
        for (int i : new int[] {-1, 3, 159, 160, MIN, MAX}) {
            tells(0, SET, x -> x.element(0, i));
        }
        tells(0, SET, x -> x.element(1, 160));
        tells(0, SET, x -> x.element(2, 0));
    }

    @Says("0 if there is none (nothing is refused)")
    static void promise05_noSuchShelf() {
        for (int s : NO_SHELVES) {
            tells(0, SET, x -> x.element(s, 0));
        }
    }

    @Says("0 if there is none (nothing is refused)")
    static void promise05_noRowOnTheShelf() {
        tells(0, SET, x -> x.element(3, 0));
        tells(0, SET, x -> x.element(7, 0));
        tells(0, with(x -> {
            put(x, 0, 5);
            x.show(0, -1);
        }), x -> x.element(0, 0));
    }

    // ---- promise 6: show

    private static final Supplier<AStreetByACane> EIGHT_SIGNS = with(x -> {
        manySigns(x, 8);
        put(x, 1, 4);
    });

    @Says({"SHELF s holds a SIGN", "SHELVES 0 to 7"})
    static void promise06_theFirstAndTheLastSignAndShelf() {
        AStreetByACane x = EIGHT_SIGNS.get();
        is(1, x.show(0, 0));
        is(1, x.show(7, 7));
        is(0, x.holds(0));
        is(7, x.holds(7));
        does(1, EIGHT_SIGNS, y -> y.show(0, 7));
    }

    @Says("or NOTHING (sign NONE): 1, 0")
    static void promise06_nothing() {
        AStreetByACane x = EIGHT_SIGNS.get();
        x.show(0, 3);
        is(0, x.show(0, -1));
        is(-1, x.holds(0));
        is(0, x.show(0, -1));
        does(0, fresh(), y -> y.show(7, -1));
    }

    @Says("SHELF s holds a SIGN, or NOTHING")
    static void promise06_overARow() {
        AStreetByACane x = EIGHT_SIGNS.get();
        is(1, x.show(1, 0));
        is(0, x.holds(1));
        is(0, x.element(1, 0));
        x = EIGHT_SIGNS.get();
        is(0, x.show(1, -1));
        is(-1, x.holds(1));
        is(-3, x.set(1, 0, 1));
    }

    @Says({"1, 0. -1", "-1 NOBODY: no such SHELF"})
    static void promise06_minus1_noSuchShelf() {
        for (int s : NO_SHELVES) {
            refuses(-1, EIGHT_SIGNS, x -> x.show(s, 0));
            refuses(-1, EIGHT_SIGNS, x -> x.show(s, -1));
            refuses(-1, EIGHT_SIGNS, x -> x.show(s, 8));
        }
    }

    @Says("1, 0. -1")
    static void promise06_minus1_noSuchSign() {
        for (int sign : new int[] {-2, 8, MIN, MAX}) {
            refuses(-1, EIGHT_SIGNS, x -> x.show(0, sign));
            refuses(-1, EIGHT_SIGNS, x -> x.show(1, sign));
        }
        refuses(-1, fresh(), x -> x.show(0, 0));
        Supplier<AStreetByACane> one = with(x -> manySigns(x, 1));
        does(1, one, x -> x.show(0, 0));
        refuses(-1, one, x -> x.show(0, 1));
    }

    // ---- promise 7: holds

    @Says("NONE NOTHING, or no such SHELF")
    static void promise07_nothingOrNoSuchShelf() {
        tells(-1, SET, x -> x.holds(7));
        for (int s : NO_SHELVES) {
            tells(-1, SET, x -> x.holds(s));
        }
    }

    @Says("a SIGN's number")
    static void promise07_theFirstAndTheLastSign() {
        tells(0, with(x -> putSign(x, 0)), x -> x.holds(0));
        tells(7, with(x -> {
            manySigns(x, 7);
            putSign(x, 7);
        }), x -> x.holds(7));
    }

    @Says("100 and the SORT of a ROW")
    static void promise07_theFirstAndTheLastSort() {
        for (int sort = 0; sort < 4; sort++) {
            int of = sort;
            tells(100 + sort, with(x -> x.row(of, of, 0)), x -> x.holds(of));
            tells(100 + sort, with(x -> x.row(7, of, 160)), x -> x.holds(7));
        }
    }

    // ---- promise 8: says

    /** A SIGN of a KIND on SHELF 0, in CELL 3 of twelve. */
    private static Supplier<AStreetByACane> shown(int kind, int a, int b, boolean snow) {
        return with(x -> {
            x.sign(kind, 3, a, b);
            x.show(0, 0);
            x.ask(1, snow ? 1 : 0);
        });
    }

    @Says("SIGN its a")
    static void promise08_signItsA() {
        for (int kind = 0; kind < 7; kind++) {
            tells(1, shown(kind, 1, 0, true), x -> x.says(0, 0));
            tells(10, shown(kind, 10, 255, false), x -> x.says(0, 0));
        }
    }

    @Says("FELT, SLOPE its STRENGTH in its CELL now")
    static void promise08_feltItsStrengthNow() {
        for (int kind : new int[] {1, 6, 4}) {
            tells(1, shown(kind, 1, 0, false), x -> x.says(0, 1));
            tells(10, shown(kind, 10, 0, false), x -> x.says(0, 1));
        }
        tells(0, shown(1, 10, 0, true), x -> x.says(0, 1));
        tells(0, shown(6, 10, 0, true), x -> x.says(0, 1));
        tells(5, shown(4, 10, 0, true), x -> x.says(0, 1));
    }

    @Says({"FELT, SLOPE its STRENGTH in its CELL now", "half of it (cut), if SNOW lies"})
    static void promise08_slopeItsStrengthNow() {
        int[] halves = {0, 1, 1, 2, 2, 3, 3, 4, 4, 5};
        for (int a = 1; a <= 10; a++) {
            tells(a, shown(4, a, 0, false), x -> x.says(0, 4));
            tells(halves[a - 1], shown(4, a, 0, true), x -> x.says(0, 4));
        }
    }

    @Says("SOUND half of a, cut")
    static void promise08_soundHalfOfACut() {
        int[] halves = {0, 1, 1, 2, 2, 3, 3, 4, 4, 5};
        for (int a = 1; a <= 10; a++) {
            tells(halves[a - 1], shown(2, a, 0, true), x -> x.says(0, 2));
            tells(halves[a - 1], shown(3, a, 0, false), x -> x.says(0, 2));
        }
    }

    @Says("SMELT at how many HOURS it is there")
    static void promise08_smeltFromNoHourToAllEight() {
        int[][] hours = {{0, 0}, {1, 1}, {128, 1}, {129, 2}, {127, 7}, {255, 8}};
        for (int[] h : hours) {
            tells(h[1], shown(3, 1, h[0], false), x -> x.says(0, 3));
        }
    }

    @Says("COUNT how many STEPS more (0 at least)")
    static void promise08_countStepsMoreZeroAtLeast() {
        int[][] more = {{0, 0, 0}, {255, 0, 255}, {3, 2, 1}, {3, 3, 0}, {3, 4, 0}, {0, 16, 0}, {255, 16, 239}};
        for (int[] m : more) {
            tells(m[2], with(x -> {
                x.sign(5, 0, 1, m[0]);
                x.show(0, 0);
                hear(x, m[1]);
            }), x -> x.says(0, 5));
        }
    }

    @Says({"FALSE its other CELL", "in CELL b modulo LONG"})
    static void promise08_falseItsOtherCell() {
        int[][] others = {{0, 0}, {11, 11}, {12, 0}, {23, 11}, {24, 0}, {255, 3}};
        for (int[] o : others) {
            tells(o[1], shown(6, 1, o[0], true), x -> x.says(0, 6));
        }
        int[][] byLong = {{2, 1, 1}, {2, 2, 0}, {2, 255, 1}, {24, 23, 23}, {24, 24, 0}, {24, 255, 15}};
        for (int[] o : byLong) {
            tells(o[2], with(x -> {
                x.street(o[0]);
                x.sign(6, 0, 1, o[1]);
                x.show(0, 0);
            }), x -> x.says(0, 6));
        }
    }

    @Says("-1 SHELF, KIND")
    static void promise08_minus1_noSuchShelf() {
        for (int s : NO_SHELVES) {
            refuses(-1, shown(0, 1, 0, false), x -> x.says(s, 0));
        }
    }

    @Says("-1 SHELF, KIND")
    static void promise08_minus1_noSuchKind() {
        for (int kind : new int[] {-1, 7, 8, MIN, MAX}) {
            refuses(-1, shown(6, 1, 0, false), x -> x.says(0, kind));
        }
        tells(1, shown(6, 1, 0, false), x -> x.says(0, 0));
        tells(0, shown(6, 1, 0, false), x -> x.says(0, 6));
    }

    @Says({"-2 also a SIGN of another KIND", "or the other way about"})
    static void promise08_minus2_aRow() {
        for (int kind = 0; kind < 7; kind++) {
            int taken = kind;
            refuses(-2, SET, x -> x.says(0, taken));
            refuses(-2, SET, x -> x.says(2, taken));
        }
    }

    @Says({"-2 also a SIGN of another KIND", "a SIGN that isn't of the KIND wanted, or one under it",
        "0 SIGN; 1 FELT, 2 SOUND, 5 COUNT, each under SIGN; 4 SLOPE, 6 FALSE, each under FELT; 3 SMELT, under SOUND"})
    static void promise08_minus2_aSignOfAnotherKind() {
        String[] takenFor = {"0", "01", "02", "023", "014", "05", "016"};
        for (int kind = 0; kind < 7; kind++) {
            for (int as = 0; as < 7; as++) {
                int wanted = as;
                Supplier<AStreetByACane> one = shown(kind, 1, 0, false);
                if (takenFor[kind].indexOf('0' + as) >= 0) {
                    is(1, one.get().says(0, wanted) >= 0 ? 1 : 0);
                } else {
                    refuses(-2, one, x -> x.says(0, wanted));
                }
            }
        }
    }

    @Says("-2 also a SIGN of another KIND; -3")
    static void promise08_minus3_nothing() {
        for (int kind = 0; kind < 7; kind++) {
            int taken = kind;
            refuses(-3, SET, x -> x.says(7, taken));
        }
    }

    @Says("-1 SHELF, KIND; -2")
    static void promise08_minus1_comesBefore_minus2() {
        refuses(-1, SET, x -> x.says(0, 7));
        refuses(-1, SET, x -> x.says(3, -1));
    }

    @Says("-3.")
    static void promise08_minus1_comesBefore_minus3() {
        refuses(-1, SET, x -> x.says(7, 7));
        refuses(-1, SET, x -> x.says(7, -1));
    }
}
