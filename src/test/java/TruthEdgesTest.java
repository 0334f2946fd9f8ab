import java.util.function.Supplier;

/** Edges of promises 39 to 43: a walk in truth by draws. */
public final class TruthEdgesTest extends Edge {
    private TruthEdgesTest() {
    }

    public static void main(String[] args) {
        run(TruthEdgesTest.class);
    }

    private static Supplier<AStreetByACane> longBy(int cells) {
        return with(x -> x.street(cells));
    }

    /** A SIGN in CELL 3, he is there in truth and knows nothing; so many news heard. */
    private static Supplier<AStreetByACane> setDown(int a, int news) {
        return with(x -> {
            x.sign(0, 3, a, 0);
            x.begin(3);
            hear(x, news);
        });
    }

    // ---- promise 39: begin

    @Says({"He is set down IN TRUTH in a CELL", "CELLS 0 to LONG less 1"})
    static void promise39_theFirstAndTheLastCell() {
        for (int cells : new int[] {2, 12, 24}) {
            does(-1, longBy(cells), x -> x.begin(0));
            does(-1, longBy(cells), x -> x.begin(cells - 1));
            AStreetByACane x = longBy(cells).get();
            x.begin(cells - 1);
            x.lost(cells - 1);
            is(1, x.right());
            is(cells - 1, x.begin(0));
            is(0, x.right());
            is(0, x.begin(0));
        }
    }

    @Says("what he knows stays")
    static void promise39_whatHeKnowsStays() {
        AStreetByACane x = ready(y -> {
            y.sign(0, 3, 5, 0);
            y.feel(0, false);
            y.step(false);
        });
        AStreetByACane same = ready(y -> {
            y.sign(0, 3, 5, 0);
            y.feel(0, false);
            y.step(false);
        });
        x.begin(5);
        for (int c = -1; c < 12; c++) {
            is(same.odds(c), x.odds(c));
        }
        is(2, x.status(3));
        is(1, x.status(4));
    }

    @Says("the CELL he was in; NONE: nowhere")
    static void promise39_nowhere() {
        does(-1, fresh(), x -> x.begin(7));
        does(7, with(x -> x.begin(7)), x -> x.begin(0));
        does(-1, with(x -> {
            x.begin(7);
            x.street(12);
        }), x -> x.begin(0));
        does(7, with(x -> {
            x.begin(7);
            x.lost(-1);
        }), x -> x.begin(0));
    }

    @Says({"NONE: nowhere. -1", "-1 NOBODY: no such SHELF, CELL"})
    static void promise39_minus1_noSuchCell() {
        for (int cells : new int[] {2, 12, 24}) {
            for (int cell : new int[] {-1, -2, cells, MIN, MAX}) {
                refuses(-1, longBy(cells), x -> x.begin(cell));
                refuses(-1, with(x -> {
                    x.street(cells);
                    x.begin(1);
                }), x -> x.begin(cell));
            }
        }
    }

    // ---- promise 40: goes

    /** How far he goes by each draw below ten, and where he is then. */
    private static void goesBy(int stays, int twos, boolean signed) {
        for (int d = 0; d < 10; d++) {
            int seed = seedThatDraws(d, signed);
            int due = d < stays ? 0 : d < stays + twos ? 2 : 1;
            for (int way = 0; way < 2; way++) {
                boolean back = way == 1;
                AStreetByACane x = ready(y -> {
                    y.wander(stays, twos);
                    y.begin(5);
                    y.seed(seed);
                });
                is(due, x.goes(back));
                is(seedBehind(seed), x.status(9));
                is(back ? 5 - due : 5 + due, x.begin(0));
            }
        }
    }

    @Says("a DRAW below 10: he stays, if below STAYS, else goes two, if below STAYS and TWOS, else one")
    static void promise40_belowStaysBelowStaysAndTwos() {
        int[][] wanders = {{1, 1}, {0, 0}, {10, 0}, {0, 10}, {3, 4}, {9, 1}, {1, 9}, {5, 5}};
        for (int[] w : wanders) {
            goesBy(w[0], w[1], false);
        }
    }

    @Says({"its upper 16 bits, no sign, modulo n", "(an int, wrapping)"})
    static void promise40_aSeedBelowZeroDrawsNoSign() {
        goesBy(1, 1, true);
        goesBy(3, 4, true);
    }

    @Says("0 he stayed, 1, 2 CELLS as he meant (though the street may end sooner)")
    static void promise40_theStreetMayEndSooner() {
        int two = seedThatDraws(1, false);
        int one = seedThatDraws(2, false);
        int[][] ends = {{12, 11, 11, 9}, {12, 10, 11, 8}, {12, 0, 2, 0}, {12, 1, 3, 0}, {2, 0, 1, 0}, {2, 1, 1, 0}};
        for (int[] e : ends) {
            for (int way = 0; way < 2; way++) {
                boolean back = way == 1;
                AStreetByACane x = ready(y -> {
                    y.street(e[0]);
                    y.begin(e[1]);
                    y.seed(two);
                });
                is(2, x.goes(back));
                is(e[2 + way], x.begin(0));
            }
        }
        AStreetByACane x = ready(y -> {
            y.begin(11);
            y.seed(one);
        });
        is(1, x.goes(false));
        is(11, x.begin(0));
        x.seed(one);
        is(1, x.goes(true));
        is(0, x.begin(0));
    }

    @Says("his ODDS go by the STEP")
    static void promise40_hisOddsGoByTheStep() {
        for (int way = 0; way < 2; way++) {
            AStreetByACane x = ready(y -> y.begin(5));
            AStreetByACane stepped = new AStreetByACane();
            x.goes(way == 1);
            stepped.step(way == 1);
            for (int c = -1; c < 12; c++) {
                is(stepped.odds(c), x.odds(c));
            }
            is(1, x.status(3));
            is(1, x.status(4));
        }
    }

    @Says("-6 he isn't set down")
    static void promise40_minus6_heIsNotSetDown() {
        for (boolean back : new boolean[] {false, true}) {
            refuses(-6, fresh(), x -> x.goes(back));
            refuses(-6, with(x -> {
                x.begin(3);
                x.street(12);
            }), x -> x.goes(back));
        }
    }

    @Says({"-6 he isn't set down; -7", "(16 at most)"})
    static void promise40_minus7_moreThan16News() {
        for (boolean back : new boolean[] {false, true}) {
            isSo(setDown(5, 15).get().goes(back) >= 0);
            refuses(-7, setDown(5, 16), x -> x.goes(back));
        }
        AStreetByACane x = setDown(5, 15).get();
        x.goes(false);
        is(16, x.status(3));
        is(-7, x.goes(false));
    }

    @Says("-6 he isn't set down; -7")
    static void promise40_minus6_comesBefore_minus7() {
        refuses(-6, with(x -> hear(x, 16)), x -> x.goes(false));
    }

    // ---- promise 41: looks

    @Says("A SIGN looked for: a DRAW below 10: it is there, if below its STRENGTH in his CELL")
    static void promise41_belowItsStrengthInHisCell() {
        for (int a = 1; a <= 10; a++) {
            for (int d = 0; d < 10; d++) {
                int strength = a;
                int seed = seedThatDraws(d, d % 2 == 0);
                AStreetByACane x = ready(y -> {
                    y.sign(0, 3, strength, 0);
                    y.begin(3);
                    y.seed(seed);
                });
                is(d < a ? 1 : 0, x.looks(0));
                is(seedBehind(seed), x.status(9));
                is(3, x.begin(3));
            }
        }
    }

    @Says("it is there, if below its STRENGTH in his CELL")
    static void promise41_neverAtNoneAlwaysAtTen() {
        for (int d = 0; d < 10; d++) {
            int seed = seedThatDraws(d, false);
            does(0, with(x -> {
                x.sign(0, 3, 10, 0);
                x.begin(4);
                x.seed(seed);
            }), x -> x.looks(0));
            does(1, with(x -> {
                x.sign(0, 3, 10, 0);
                x.begin(3);
                x.seed(seed);
            }), x -> x.looks(0));
        }
    }

    @Says("his ODDS go by that")
    static void promise41_hisOddsGoByThat() {
        for (int d = 0; d < 10; d += 9) {
            int seed = seedThatDraws(d, false);
            AStreetByACane x = setDown(5, 0).get();
            AStreetByACane felt = setDown(5, 0).get();
            x.seed(seed);
            x.looks(0);
            felt.feel(0, d == 0);
            for (int c = -1; c < 12; c++) {
                is(felt.odds(c), x.odds(c));
            }
            is(1, x.status(3));
            is(0, x.status(4));
        }
    }

    @Says("1 it is there, 0 not. -1")
    static void promise41_minus1_noSuchSign() {
        for (int number : new int[] {-1, 1, 8, MIN, MAX}) {
            refuses(-1, setDown(5, 0), x -> x.looks(number));
        }
        Supplier<AStreetByACane> eight = with(x -> {
            manySigns(x, 8);
            x.begin(0);
        });
        isSo(eight.get().looks(7) >= 0);
        refuses(-1, eight, x -> x.looks(8));
        refuses(-1, with(x -> x.begin(0)), x -> x.looks(0));
    }

    @Says("-6 he isn't set down")
    static void promise41_minus6_heIsNotSetDown() {
        refuses(-6, with(x -> manySigns(x, 1)), x -> x.looks(0));
        refuses(-6, with(x -> {
            x.begin(0);
            x.street(12);
            manySigns(x, 1);
        }), x -> x.looks(0));
    }

    @Says("what is so can't be by what he knows")
    static void promise41_minus6_whatIsSoCannotBe() {
        refuses(-6, with(x -> {
            x.sign(0, 3, 10, 0);
            x.begin(3);
            x.lost(4);
        }), x -> x.looks(0));
        refuses(-6, with(x -> {
            x.sign(0, 3, 10, 0);
            x.begin(4);
            x.lost(3);
        }), x -> x.looks(0));
        // at one tenth: he draws 0, and it is there, though he knows that he is elsewhere
        refuses(-6, with(x -> {
            x.sign(0, 3, 1, 0);
            x.begin(3);
            x.lost(4);
            x.seed(seedThatDraws(0, false));
        }), x -> x.looks(0));
        does(0, with(x -> {
            x.sign(0, 3, 1, 0);
            x.begin(3);
            x.lost(4);
            x.seed(seedThatDraws(1, false));
        }), x -> x.looks(0));
    }

    @Says({"-6 he isn't set down, what is so can't be by what he knows; -7", "(16 at most)"})
    static void promise41_minus7_moreThan16News() {
        isSo(setDown(5, 15).get().looks(0) >= 0);
        for (int d = 0; d < 10; d++) {
            int seed = seedThatDraws(d, false);
            refuses(-7, with(x -> {
                x.sign(0, 3, 5, 0);
                x.begin(3);
                hear(x, 16);
                x.seed(seed);
            }), x -> x.looks(0));
        }
    }

    @Says("-1; -6 he isn't set down")
    static void promise41_minus1_comesBefore_minus6() {
        refuses(-1, fresh(), x -> x.looks(0));
        refuses(-1, with(x -> manySigns(x, 1)), x -> x.looks(1));
    }

    @Says("-1; -6 he isn't set down, what is so can't be by what he knows; -7")
    static void promise41_minus1_comesBefore_minus7() {
        refuses(-1, setDown(5, 16), x -> x.looks(1));
        refuses(-1, setDown(5, 16), x -> x.looks(-1));
    }

    @Says("what is so can't be by what he knows; -7")
    static void promise41_minus6_comesBefore_minus7() {
        refuses(-6, with(x -> {
            manySigns(x, 1);
            hear(x, 16);
        }), x -> x.looks(0));
        refuses(-6, with(x -> {
            x.sign(0, 3, 10, 0);
            x.begin(3);
            x.lost(4);
            hear(x, 16);
        }), x -> x.looks(0));
    }

    // ---- promise 42: right

    @Says("1 if he is in truth where he is SURE to be, else 0")
    static void promise42_theFirstAndTheLastCell() {
        for (int cell = 0; cell < 12; cell += 11) {
            int known = cell;
            tells(1, with(x -> {
                x.begin(known);
                x.lost(known);
            }), x -> x.right());
            tells(0, with(x -> {
                x.begin(11 - known);
                x.lost(known);
            }), x -> x.right());
        }
    }

    @Says({"where he is SURE to be", "of several the first"})
    static void promise42_ofSeveralTheFirst() {
        tells(1, with(x -> x.begin(0)), x -> x.right());
        tells(0, with(x -> x.begin(1)), x -> x.right());
    }

    @Says("-6 he isn't set down")
    static void promise42_minus6_heIsNotSetDown() {
        refuses(-6, fresh(), x -> x.right());
        refuses(-6, with(x -> {
            x.begin(0);
            x.street(12);
        }), x -> x.right());
        refuses(-6, with(x -> x.lost(4)), x -> x.right());
    }

    // ---- promise 43: seed

    @Says("SEED becomes v: what it was (nothing is refused)")
    static void promise43_anyNumber() {
        does(1, fresh(), x -> x.seed(5));
        for (int v : new int[] {0, 1, -1, MIN, MAX}) {
            does(1, fresh(), x -> x.seed(v));
            is(v, ready(x -> x.seed(v)).status(9));
            does(v, with(x -> x.seed(v)), x -> x.seed(0));
        }
    }

    @Says("SEED (1 at first) becomes SEED times 1103515245, and 12345 (an int, wrapping)")
    static void promise43_theSeedWrapsAround() {
        int[][] then = {{0, 12345}, {1, 1103527590}, {2, -2087924461}, {-1, -1103502900}};
        for (int[] t : then) {
            AStreetByACane x = ready(y -> {
                y.begin(5);
                y.seed(t[0]);
            });
            x.goes(false);
            is(t[1], x.status(9));
        }
        for (int v : new int[] {MIN, MAX, 1 << 30, 0x12345678}) {
            AStreetByACane x = ready(y -> {
                y.begin(5);
                y.seed(v);
            });
            x.goes(false);
            is(seedBehind(v), x.status(9));
        }
    }
}
