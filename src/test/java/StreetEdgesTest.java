import java.util.function.Supplier;

/** Edges of promises 9 to 17: the street, its signs and its things. */
public final class StreetEdgesTest extends Edge {
    private StreetEdgesTest() {
    }

    public static void main(String[] args) {
        run(StreetEdgesTest.class);
    }

    private static Supplier<AStreetByACane> longBy(int cells) {
        return with(x -> x.street(cells));
    }

    // ---- promise 9: street

    /** A street where there is something of everything. */
    private static final Supplier<AStreetByACane> LIVELY = with(x -> {
        x.wander(2, 3);
        x.ask(0, 6);
        x.ask(1, 1);
        x.ask(2, 8);
        manySigns(x, 3);
        manyThings(x, 2);
        x.show(0, 0);
        x.show(7, 2);
        put(x, 3, 4, 5);
        x.lost(3);
        x.step(false);
        x.begin(11);
        x.seed(9);
    });

    @Says({"LONG becomes v", "LONG 2 to 24"})
    static void promise09_fromTwoTo24() {
        does(12, fresh(), x -> x.street(2));
        does(12, fresh(), x -> x.street(24));
        is(2, longBy(2).get().status(0));
        is(24, longBy(24).get().status(0));
    }

    @Says("what it was")
    static void promise09_whatItWas() {
        does(2, longBy(2), x -> x.street(24));
        does(24, longBy(24), x -> x.street(2));
        does(12, fresh(), x -> x.street(12));
    }

    @Says({"CELLS 0 to LONG less 1", "LONG becomes v"})
    static void promise09_cellsUpToLongLess1() {
        for (int cells : new int[] {2, 12, 24}) {
            tells(1, longBy(cells), x -> x.odds(0));
            tells(1, longBy(cells), x -> x.odds(cells - 1));
            refuses(-1, longBy(cells), x -> x.odds(cells));
        }
    }

    @Says({"as the ITEM has it", "no SIGNS, no THINGS then"})
    static void promise09_noSignsNoThingsThen() {
        for (int cells : new int[] {2, 12, 24}) {
            AStreetByACane x = LIVELY.get();
            x.street(cells);
            is(0, x.status(1));
            is(0, x.status(2));
            is(-5, x.signOf(0, 0));
            is(-5, x.thingOf(0, 0));
        }
    }

    @Says({"(he knows nothing then, and isn't set down)", "as lost() has it"})
    static void promise09_heKnowsNothingThen() {
        AStreetByACane x = LIVELY.get();
        x.street(2);
        odds(x, 1, 1);
        is(0, x.status(3));
        is(0, x.status(4));
        x.lost(1);
        x.street(3);
        odds(x, 1, 1, 1);
    }

    @Says("(he knows nothing then, and isn't set down)")
    static void promise09_heIsNotSetDownThen() {
        for (int cells : new int[] {2, 12, 24}) {
            Supplier<AStreetByACane> told = with(x -> {
                x.begin(0);
                x.street(cells);
            });
            refuses(-6, told, x -> x.right());
            does(-1, told, x -> x.begin(0));
        }
    }

    @Says("LONG told anew (street(), long N): SHELVES with SIGNS hold NOTHING then.")
    static void promise09_shelvesWithSignsHoldNothingThen() {
        for (int cells : new int[] {2, 12, 24}) {
            AStreetByACane x = LIVELY.get();
            x.street(cells);
            is(-1, x.holds(0));
            is(-1, x.holds(7));
            is(102, x.holds(3));
            is(5, x.element(3, 1));
        }
    }

    @Says("LONG becomes v")
    static void promise09_allElseStays() {
        AStreetByACane x = LIVELY.get();
        x.street(2);
        is(6, x.status(5));
        is(1, x.status(6));
        is(8, x.status(7));
        is(9, x.status(9));
        is(203, x.wander(1, 1));
    }

    @Says({"what it was. -6", "-6 WRONG: a number that may not be"})
    static void promise09_minus6_noSuchLong() {
        for (int v : new int[] {1, 0, -1, 25, 26, 100, MIN, MAX}) {
            refuses(-6, LIVELY, x -> x.street(v));
        }
    }

    // ---- promise 10: sign

    @Says({"A SIGN: the number", "SIGNS have numbers, from 0 on, 8 at most"})
    static void promise10_numbersFrom0To7() {
        AStreetByACane x = new AStreetByACane();
        for (int number = 0; number < 8; number++) {
            is(number, x.sign(0, 0, 1, 0));
            is(number + 1, x.status(1));
        }
        is(-7, x.sign(0, 0, 1, 0));
        is(8, x.status(1));
    }

    @Says("each of a KIND: 0 SIGN; 1 FELT, 2 SOUND, 5 COUNT, each under SIGN")
    static void promise10_theFirstAndTheLastKind() {
        for (int kind = 0; kind < 7; kind++) {
            int of = kind;
            does(0, fresh(), x -> x.sign(of, 0, 1, 0));
            is(kind, ready(x -> x.sign(of, 0, 1, 0)).signOf(0, 0));
        }
    }

    @Says("CELLS 0 to LONG less 1")
    static void promise10_theFirstAndTheLastCell() {
        for (int cells : new int[] {2, 12, 24}) {
            does(0, longBy(cells), x -> x.sign(0, 0, 1, 0));
            does(0, longBy(cells), x -> x.sign(0, cells - 1, 1, 0));
            refuses(-1, longBy(cells), x -> x.sign(0, -1, 1, 0));
            refuses(-1, longBy(cells), x -> x.sign(0, cells, 1, 0));
        }
    }

    @Says("-1 KIND, CELL")
    static void promise10_minus1_noSuchKind() {
        for (int kind : new int[] {-1, 7, 8, MIN, MAX}) {
            refuses(-1, fresh(), x -> x.sign(kind, 0, 1, 0));
        }
    }

    @Says("-1 KIND, CELL")
    static void promise10_minus1_noSuchCell() {
        for (int cell : new int[] {-1, 12, 24, MIN, MAX}) {
            refuses(-1, fresh(), x -> x.sign(0, cell, 1, 0));
        }
    }

    @Says("a (1 to 10 tenths)")
    static void promise10_minus6_aBelow1OrAbove10() {
        for (int a : new int[] {0, -1, 11, 12, MIN, MAX}) {
            refuses(-6, fresh(), x -> x.sign(0, 0, a, 0));
        }
        does(0, fresh(), x -> x.sign(0, 0, 1, 0));
        does(0, fresh(), x -> x.sign(0, 0, 10, 0));
    }

    @Says("b (0 to 255)")
    static void promise10_minus6_bBelow0OrAbove255() {
        for (int b : new int[] {-1, 256, 257, MIN, MAX}) {
            refuses(-6, fresh(), x -> x.sign(0, 0, 1, b));
        }
        does(0, fresh(), x -> x.sign(0, 0, 1, 0));
        does(0, fresh(), x -> x.sign(0, 0, 1, 255));
        is(255, ready(x -> x.sign(0, 0, 1, 255)).signOf(0, 3));
    }

    @Says({"-1 KIND, CELL; -6; -7", "-7 ROOM: more than may be", "8 at most"})
    static void promise10_minus7_aNinth() {
        does(7, with(x -> manySigns(x, 7)), x -> x.sign(0, 0, 1, 0));
        refuses(-7, with(x -> manySigns(x, 8)), x -> x.sign(0, 0, 1, 0));
        refuses(-7, with(x -> manySigns(x, 8)), x -> x.sign(6, 11, 10, 255));
    }

    @Says("-1 KIND, CELL; -6")
    static void promise10_minus1_comesBefore_minus6() {
        refuses(-1, fresh(), x -> x.sign(7, 0, 0, 0));
        refuses(-1, fresh(), x -> x.sign(0, 12, 11, 256));
        refuses(-1, fresh(), x -> x.sign(-1, -1, 0, -1));
    }

    @Says("-1 KIND, CELL; -6; -7")
    static void promise10_minus1_comesBefore_minus7() {
        refuses(-1, with(x -> manySigns(x, 8)), x -> x.sign(7, 0, 1, 0));
        refuses(-1, with(x -> manySigns(x, 8)), x -> x.sign(0, 12, 1, 0));
    }

    @Says("-6; -7")
    static void promise10_minus6_comesBefore_minus7() {
        refuses(-6, with(x -> manySigns(x, 8)), x -> x.sign(0, 0, 11, 0));
        refuses(-6, with(x -> manySigns(x, 8)), x -> x.sign(0, 0, 1, 256));
    }

    // ---- promise 11: thing

    @Says({"A THING: its number", "THINGS have numbers, from 0 on, 8 at most"})
    static void promise11_numbersFrom0To7() {
        AStreetByACane x = new AStreetByACane();
        for (int number = 0; number < 8; number++) {
            is(number, x.thing(0, true, 1));
            is(number + 1, x.status(2));
        }
        is(-7, x.thing(0, true, 1));
        is(8, x.status(2));
    }

    @Says({"-1 CELL", "CELLS 0 to LONG less 1"})
    static void promise11_minus1_noSuchCell() {
        for (int cells : new int[] {2, 12, 24}) {
            does(0, longBy(cells), x -> x.thing(0, true, 1));
            does(0, longBy(cells), x -> x.thing(cells - 1, false, 1));
            for (int cell : new int[] {-1, cells, cells + 1, MIN, MAX}) {
                refuses(-1, longBy(cells), x -> x.thing(cell, true, 1));
            }
        }
    }

    @Says({"-6 LEFT", "LEFT: tenths of all days on which it stands there (1 to 10)"})
    static void promise11_minus6_leftBelow1OrAbove10() {
        for (int left : new int[] {0, -1, 11, 12, MIN, MAX}) {
            refuses(-6, fresh(), x -> x.thing(0, true, left));
            refuses(-6, fresh(), x -> x.thing(0, false, left));
        }
        does(0, fresh(), x -> x.thing(0, true, 1));
        does(0, fresh(), x -> x.thing(0, false, 10));
    }

    @Says({"-6 LEFT; -7", "8 at most"})
    static void promise11_minus7_aNinth() {
        does(7, with(x -> manyThings(x, 7)), x -> x.thing(0, true, 1));
        refuses(-7, with(x -> manyThings(x, 8)), x -> x.thing(0, true, 1));
        does(7, with(x -> {
            manyThings(x, 8);
            x.clear(7);
        }), x -> x.thing(0, true, 1));
    }

    @Says("-1 CELL; -6 LEFT")
    static void promise11_minus1_comesBefore_minus6() {
        refuses(-1, fresh(), x -> x.thing(12, true, 0));
        refuses(-1, fresh(), x -> x.thing(-1, false, 11));
    }

    @Says("-1 CELL; -6 LEFT; -7")
    static void promise11_minus1_comesBefore_minus7() {
        refuses(-1, with(x -> manyThings(x, 8)), x -> x.thing(12, true, 1));
    }

    @Says("-6 LEFT; -7")
    static void promise11_minus6_comesBefore_minus7() {
        refuses(-6, with(x -> manyThings(x, 8)), x -> x.thing(0, true, 0));
        refuses(-6, with(x -> manyThings(x, 8)), x -> x.thing(0, true, 11));
    }

    // ---- promise 12: things

    /** 0: a row that three THINGS can stand in; 2: a SIGN; 3: NOTHING; 4: no elements. */
    private static final Supplier<AStreetByACane> THREE = with(x -> {
        put(x, 0, 1, 1, 1, 2, 0, 2, 3, 5, 3);
        putSign(x, 2);
        x.row(4, 2, 0);
    });

    private static Supplier<AStreetByACane> rowOf(int... numbers) {
        return with(x -> put(x, 0, numbers));
    }

    @Says("THINGS by n elements of the ROW in SHELF s from i on, three each")
    static void promise12_fromTheFirstElementToTheLast() {
        does(3, THREE, x -> x.things(0, 0, 9));
        does(1, THREE, x -> x.things(0, 6, 3));
        AStreetByACane x = THREE.get();
        x.things(0, 3, 6);
        is(2, x.status(2));
        is(2, x.thingOf(0, 0));
        is(0, x.thingOf(0, 1));
        is(2, x.thingOf(0, 2));
        is(3, x.thingOf(1, 0));
        is(1, x.thingOf(1, 1));
        is(3, x.thingOf(1, 2));
    }

    @Says("n elements")
    static void promise12_noElements() {
        tells(0, THREE, x -> x.things(0, 0, 0));
        tells(0, THREE, x -> x.things(0, 9, 0));
        tells(0, THREE, x -> x.things(4, 0, 0));
    }

    @Says("(HIGH: not 0)")
    static void promise12_highIsNot0() {
        for (int high : new int[] {1, 2, -1, MIN, MAX}) {
            AStreetByACane x = rowOf(0, high, 1).get();
            is(1, x.things(0, 0, 3));
            is(1, x.thingOf(0, 1));
        }
        AStreetByACane x = rowOf(0, 0, 1).get();
        is(1, x.things(0, 0, 3));
        is(0, x.thingOf(0, 1));
    }

    @Says({"until one that can't be one", "how many came", "CELLS 0 to LONG less 1"})
    static void promise12_untilOneInNoCell() {
        does(1, rowOf(0, 1, 1), x -> x.things(0, 0, 3));
        does(1, rowOf(11, 1, 1), x -> x.things(0, 0, 3));
        for (int cell : new int[] {-1, 12, MIN, MAX}) {
            tells(0, rowOf(cell, 1, 1, 0, 1, 1), x -> x.things(0, 0, 6));
            Supplier<AStreetByACane> second = rowOf(0, 1, 1, cell, 1, 1, 0, 1, 1);
            does(1, second, x -> x.things(0, 0, 9));
            AStreetByACane x = second.get();
            x.things(0, 0, 9);
            is(1, x.status(2));
        }
    }

    @Says({"until one that can't be one", "how many came", "(1 to 10)"})
    static void promise12_untilOneOfNoSuchLeft() {
        does(1, rowOf(0, 1, 1), x -> x.things(0, 0, 3));
        does(1, rowOf(0, 1, 10), x -> x.things(0, 0, 3));
        for (int left : new int[] {0, -1, 11, MIN, MAX}) {
            tells(0, rowOf(0, 1, left, 0, 1, 1), x -> x.things(0, 0, 6));
            does(1, rowOf(0, 1, 1, 0, 1, left, 0, 1, 1), x -> x.things(0, 0, 9));
        }
    }

    @Says({"or that there is no room for: how many came", "8 at most"})
    static void promise12_untilThereIsNoRoom() {
        does(3, with(x -> {
            manyThings(x, 5);
            put(x, 0, 0, 1, 1, 0, 1, 1, 0, 1, 1);
        }), x -> x.things(0, 0, 9));
        Supplier<AStreetByACane> roomForTwo = with(x -> {
            manyThings(x, 6);
            put(x, 0, 0, 1, 1, 0, 1, 1, 0, 1, 1);
        });
        does(2, roomForTwo, x -> x.things(0, 0, 9));
        AStreetByACane two = roomForTwo.get();
        two.things(0, 0, 9);
        is(8, two.status(2));
        tells(0, with(x -> {
            manyThings(x, 8);
            put(x, 0, 0, 1, 1);
        }), x -> x.things(0, 0, 3));
    }

    @Says("n elements of the ROW")
    static void promise12_aRowOf160ElementsWhole() {
        Supplier<AStreetByACane> most = with(x -> {
            x.row(0, 0, 160);
            for (int i = 0; i < 160; i++) {
                x.set(0, i, 1);
            }
        });
        does(8, most, x -> x.things(0, 1, 159));
        does(1, most, x -> x.things(0, 157, 3));
        refuses(-5, most, x -> x.things(0, 158, 3));
        refuses(-5, most, x -> x.things(0, 0, 162));
        refuses(-6, most, x -> x.things(0, 0, 160));
    }

    @Says("(As ints: of longs the lowest 32 bits.)")
    static void promise12_ofLongsTheLowest32Bits() {
        AStreetByACane x = ready(y -> putLongs(y, 0, (1L << 32) + 11, 1L << 32, (3L << 32) + 10));
        is(1, x.things(0, 0, 3));
        is(11, x.thingOf(0, 0));
        is(0, x.thingOf(0, 1));
        is(10, x.thingOf(0, 2));
        tells(0, with(y -> putLongs(y, 0, (1L << 32) + 12, 1, 1)), y -> y.things(0, 0, 3));
        tells(0, with(y -> putLongs(y, 0, 0xffffffffL, 1, 1)), y -> y.things(0, 0, 3));
        tells(0, with(y -> putLongs(y, 0, 0, 1, 1L << 32)), y -> y.things(0, 0, 3));
    }

    @Says("how many came. -1")
    static void promise12_minus1_noSuchShelf() {
        for (int s : new int[] {-1, 8, MIN, MAX}) {
            refuses(-1, THREE, x -> x.things(s, 0, 3));
        }
    }

    @Says("-2 OTHER: a SHELF that holds a SIGN where a ROW is wanted")
    static void promise12_minus2_aShelfWithASign() {
        refuses(-2, THREE, x -> x.things(2, 0, 0));
    }

    @Says("-3 NOTHING: a SHELF that holds NOTHING")
    static void promise12_minus3_aShelfWithNothing() {
        refuses(-3, THREE, x -> x.things(3, 0, 0));
    }

    @Says("-4 n; -5")
    static void promise12_minus4_nBelow0() {
        for (int n : new int[] {-1, -3, MIN}) {
            refuses(-4, THREE, x -> x.things(0, 0, n));
        }
        tells(0, THREE, x -> x.things(0, 0, 0));
    }

    @Says("-5 BEYOND: an element that isn't there")
    static void promise12_minus5_anElementThatIsNotThere() {
        int[][] beyond = {{-1, 3}, {-1, 0}, {MIN, 3}, {0, 12}, {1, 9}, {7, 3}, {9, 3}, {10, 0}, {MAX, 3}, {MAX, MAX - 1},
            {0, MAX - 1}, {3, MAX - 1}};
        for (int[] b : beyond) {
            refuses(-5, THREE, x -> x.things(0, b[0], b[1]));
        }
        refuses(-5, THREE, x -> x.things(4, 0, 3));
        does(1, THREE, x -> x.things(0, 6, 3));
        does(3, THREE, x -> x.things(0, 0, 9));
    }

    @Says("-6 n is no multiple of three")
    static void promise12_minus6_noMultipleOfThree() {
        for (int n : new int[] {1, 2, 4, 5, 7, 8}) {
            refuses(-6, THREE, x -> x.things(0, 0, n));
        }
        for (int n : new int[] {0, 3, 6, 9}) {
            does(n / 3, THREE, x -> x.things(0, 0, n));
        }
    }

    @Says("-1; -2; -3; -4 n; -5; -6")
    static void promise12_minus1_comesBefore_minus4_minus5_minus6() {
        refuses(-1, THREE, x -> x.things(8, 0, -1));
        refuses(-1, THREE, x -> x.things(-1, -1, 3));
        refuses(-1, THREE, x -> x.things(8, 0, 1));
    }

    @Says("-2; -3; -4 n; -5; -6")
    static void promise12_minus2_comesBefore_minus4_minus5_minus6() {
        refuses(-2, THREE, x -> x.things(2, 0, -1));
        refuses(-2, THREE, x -> x.things(2, -1, 3));
        refuses(-2, THREE, x -> x.things(2, 0, 1));
    }

    @Says("-3; -4 n; -5; -6")
    static void promise12_minus3_comesBefore_minus4_minus5_minus6() {
        refuses(-3, THREE, x -> x.things(3, 0, -1));
        refuses(-3, THREE, x -> x.things(3, -1, 3));
        refuses(-3, THREE, x -> x.things(3, 0, 1));
    }

    @Says("-4 n; -5; -6")
    static void promise12_minus4_comesBefore_minus5_minus6() {
        refuses(-4, THREE, x -> x.things(0, -1, -3));
        refuses(-4, THREE, x -> x.things(0, 10, -3));
        refuses(-4, THREE, x -> x.things(0, 0, -1));
    }

    @Says("-5; -6 n is no multiple of three")
    static void promise12_minus5_comesBefore_minus6() {
        refuses(-5, THREE, x -> x.things(0, -1, 1));
        refuses(-5, THREE, x -> x.things(0, 8, 2));
        refuses(-5, THREE, x -> x.things(0, 0, 10));
        refuses(-5, THREE, x -> x.things(0, 0, MAX));
    }

    // ---- promise 13: wander

    @Says("STAYS and TWOS become s and t: 100 times STAYS and TWOS as they were")
    static void promise13_asTheyWere() {
        does(101, fresh(), x -> x.wander(1, 1));
        int[][] were = {{0, 0, 0}, {10, 0, 1000}, {0, 10, 10}, {5, 5, 505}, {9, 1, 901}, {1, 9, 109}};
        for (int[] w : were) {
            does(101, fresh(), x -> x.wander(w[0], w[1]));
            does(w[2], with(x -> x.wander(w[0], w[1])), x -> x.wander(0, 0));
        }
    }

    @Says("0 to 10 each")
    static void promise13_minus6_below0OrAbove10() {
        int[][] wrong = {{-1, 0}, {0, -1}, {-1, -1}, {11, 0}, {0, 11}, {-1, 11}, {11, -1}, {-1, 5}, {5, -1},
            {MIN, 0}, {0, MIN}, {MAX, 0}, {0, MAX}};
        for (int[] w : wrong) {
            refuses(-6, fresh(), x -> x.wander(w[0], w[1]));
        }
        does(101, fresh(), x -> x.wander(0, 0));
        does(101, fresh(), x -> x.wander(10, 0));
        does(101, fresh(), x -> x.wander(0, 10));
    }

    @Says("no more than 10 together")
    static void promise13_minus6_moreThan10Together() {
        for (int s = 0; s <= 10; s++) {
            int stays = s;
            does(101, fresh(), x -> x.wander(stays, 10 - stays));
            refuses(-6, fresh(), x -> x.wander(stays, 11 - stays));
        }
        refuses(-6, fresh(), x -> x.wander(MAX, MAX));
        refuses(-6, fresh(), x -> x.wander(MIN, MIN));
        refuses(-6, fresh(), x -> x.wander(10, 10));
    }

    // ---- promise 14: ask

    @Says({"HOUR (what 0)", "HOUR (0 to 7"})
    static void promise14_hourFrom0To7() {
        for (int v = 0; v < 8; v++) {
            int hour = v;
            does(0, fresh(), x -> x.ask(0, hour));
            is(v, ready(x -> x.ask(0, hour)).status(5));
            does(v, with(x -> x.ask(0, hour)), x -> x.ask(0, 0));
        }
    }

    @Says("SNOW (1; 0 or 1)")
    static void promise14_snow0Or1() {
        for (int v = 0; v < 2; v++) {
            int snow = v;
            does(0, fresh(), x -> x.ask(1, snow));
            is(v, ready(x -> x.ask(1, snow)).status(6));
            does(v, with(x -> x.ask(1, snow)), x -> x.ask(1, 0));
        }
    }

    @Says({"ARC (2) becomes v: what it was", "ARC of the cane (1 to 9"})
    static void promise14_arcFrom1To9() {
        for (int v = 1; v < 10; v++) {
            int arc = v;
            does(5, fresh(), x -> x.ask(2, arc));
            is(v, ready(x -> x.ask(2, arc)).status(7));
            does(v, with(x -> x.ask(2, arc)), x -> x.ask(2, 1));
        }
    }

    @Says({"what it was. -6", "HOUR (0 to 7"})
    static void promise14_minus6_hour() {
        for (int v : new int[] {-1, 8, 9, MIN, MAX}) {
            refuses(-6, fresh(), x -> x.ask(0, v));
        }
    }

    @Says({"what it was. -6", "SNOW (1; 0 or 1)"})
    static void promise14_minus6_snow() {
        for (int v : new int[] {-1, 2, 3, MIN, MAX}) {
            refuses(-6, fresh(), x -> x.ask(1, v));
            refuses(-6, with(x -> x.ask(1, 1)), x -> x.ask(1, v));
        }
    }

    @Says({"what it was. -6", "ARC of the cane (1 to 9"})
    static void promise14_minus6_arc() {
        for (int v : new int[] {0, -1, 10, 11, MIN, MAX}) {
            refuses(-6, fresh(), x -> x.ask(2, v));
        }
    }

    @Says({"what it was. -6", "-6 WRONG: a number that may not be"})
    static void promise14_minus6_anotherWhat() {
        for (int what : new int[] {-1, 3, 4, MIN, MAX}) {
            refuses(-6, fresh(), x -> x.ask(what, 1));
            refuses(-6, fresh(), x -> x.ask(what, -1));
        }
    }

    // ---- promise 15: signOf

    private static final Supplier<AStreetByACane> SIGNS = with(x -> {
        x.sign(0, 0, 1, 0);
        x.sign(6, 11, 10, 255);
    });

    @Says("Of a SIGN: 0 KIND, 1 CELL, 2 a, 3 b")
    static void promise15_theLeastAndTheGreatest() {
        int[] least = {0, 0, 1, 0};
        int[] greatest = {6, 11, 10, 255};
        for (int w = 0; w < 4; w++) {
            int what = w;
            tells(least[w], SIGNS, x -> x.signOf(0, what));
            tells(greatest[w], SIGNS, x -> x.signOf(1, what));
        }
    }

    @Says({"-5: no such one", "nothing such to be told of"})
    static void promise15_minus5_noSuchSign() {
        for (int sign : new int[] {-1, 2, 7, 8, MIN, MAX}) {
            refuses(-5, SIGNS, x -> x.signOf(sign, 0));
            refuses(-5, SIGNS, x -> x.signOf(sign, 4));
        }
        refuses(-5, fresh(), x -> x.signOf(0, 0));
        refuses(-5, with(x -> manySigns(x, 8)), x -> x.signOf(8, 0));
        tells(0, with(x -> manySigns(x, 8)), x -> x.signOf(7, 0));
    }

    @Says("another what")
    static void promise15_minus5_anotherWhat() {
        for (int what : new int[] {-1, 4, 5, MIN, MAX}) {
            refuses(-5, SIGNS, x -> x.signOf(0, what));
            refuses(-5, SIGNS, x -> x.signOf(1, what));
        }
    }

    // ---- promise 16: thingOf

    private static final Supplier<AStreetByACane> THINGS = with(x -> {
        x.thing(0, false, 1);
        x.thing(11, true, 10);
    });

    @Says("Of a THING: 0 CELL, 1 1 if HIGH, 2 LEFT")
    static void promise16_theLeastAndTheGreatest() {
        int[] least = {0, 0, 1};
        int[] greatest = {11, 1, 10};
        for (int w = 0; w < 3; w++) {
            int what = w;
            tells(least[w], THINGS, x -> x.thingOf(0, what));
            tells(greatest[w], THINGS, x -> x.thingOf(1, what));
        }
    }

    @Says({"-5: no such one", "nothing such to be told of"})
    static void promise16_minus5_noSuchThing() {
        for (int thing : new int[] {-1, 2, 7, 8, MIN, MAX}) {
            refuses(-5, THINGS, x -> x.thingOf(thing, 0));
            refuses(-5, THINGS, x -> x.thingOf(thing, 3));
        }
        refuses(-5, fresh(), x -> x.thingOf(0, 0));
        refuses(-5, with(x -> manyThings(x, 8)), x -> x.thingOf(8, 0));
        tells(0, with(x -> manyThings(x, 8)), x -> x.thingOf(7, 0));
        refuses(-5, with(x -> {
            manyThings(x, 2);
            x.clear(0);
        }), x -> x.thingOf(1, 0));
    }

    @Says("another what")
    static void promise16_minus5_anotherWhat() {
        for (int what : new int[] {-1, 3, 4, MIN, MAX}) {
            refuses(-5, THINGS, x -> x.thingOf(0, what));
            refuses(-5, THINGS, x -> x.thingOf(1, what));
        }
    }

    // ---- promise 17: clear

    private static Supplier<AStreetByACane> thingsInARow(int n) {
        return with(x -> {
            for (int cell = 0; cell < n; cell++) {
                x.thing(cell, true, 1);
            }
        });
    }

    private static void cellsLeft(int clear, int... cells) {
        AStreetByACane x = thingsInARow(8).get();
        is(7, x.clear(clear));
        for (int i = 0; i < cells.length; i++) {
            is(cells[i], x.thingOf(i, 0));
        }
        is(-5, x.thingOf(7, 0));
        is(7, x.thing(11, false, 3));
        is(11, x.thingOf(7, 0));
    }

    @Says({"A THING goes: how many are left", "(those behind it move up)"})
    static void promise17_theFirstAndTheLastOfEight() {
        cellsLeft(0, 1, 2, 3, 4, 5, 6, 7);
        cellsLeft(4, 0, 1, 2, 3, 5, 6, 7);
        cellsLeft(7, 0, 1, 2, 3, 4, 5, 6);
    }

    @Says("how many are left")
    static void promise17_downToNone() {
        AStreetByACane x = thingsInARow(8).get();
        for (int left = 7; left >= 0; left--) {
            is(left, x.clear(left % 2 == 0 ? 0 : left));
            is(left, x.status(2));
        }
        is(-1, x.clear(0));
        is(0, x.thing(3, true, 1));
    }

    @Says({"-1.", "no such SHELF, CELL, SIGN, THING, KIND"})
    static void promise17_minus1_noSuchThing() {
        for (int thing : new int[] {-1, 3, 7, 8, MIN, MAX}) {
            refuses(-1, thingsInARow(3), x -> x.clear(thing));
        }
        does(2, thingsInARow(3), x -> x.clear(2));
        does(7, thingsInARow(8), x -> x.clear(7));
        refuses(-1, thingsInARow(8), x -> x.clear(8));
        refuses(-1, fresh(), x -> x.clear(0));
    }
}
