import java.util.function.Supplier;

/** Edges of promises 20 to 28: where he is. */
public final class OddsEdgesTest extends Edge {
    private static final int STEP = 0;
    private static final int BACK = 1;
    private static final int THERE = 10;
    private static final int NOT_THERE = 20;

    private OddsEdgesTest() {
    }

    public static void main(String[] args) {
        run(OddsEdgesTest.class);
    }

    private static Supplier<AStreetByACane> longBy(int cells) {
        return with(x -> x.street(cells));
    }

    private static Supplier<AStreetByACane> heard(int news) {
        return with(x -> {
            manySigns(x, 1);
            hear(x, news);
        });
    }

    // ---- promise 20: lost

    @Says({"He knows that he is in a CELL", "CELLS 0 to LONG less 1"})
    static void promise20_theFirstAndTheLastCell() {
        for (int cells : new int[] {2, 12, 24}) {
            does(0, longBy(cells), x -> x.lost(0));
            does(0, longBy(cells), x -> x.lost(cells - 1));
            AStreetByACane x = longBy(cells).get();
            x.lost(cells - 1);
            is(1, x.odds(cells - 1));
            is(0, x.odds(0));
            is(1, x.odds(-1));
            x.lost(0);
            is(0, x.odds(cells - 1));
            is(1, x.odds(0));
            is(1, x.odds(-1));
        }
    }

    @Says("(NONE: he knows nothing; ODDS are 1 each)")
    static void promise20_noneHeKnowsNothing() {
        for (int cells : new int[] {2, 24}) {
            AStreetByACane x = longBy(cells).get();
            x.lost(1);
            is(0, x.lost(-1));
            for (int c = 0; c < cells; c++) {
                is(1, x.odds(c));
            }
            is(cells, x.odds(-1));
        }
    }

    @Says("NEWS as they were")
    static void promise20_newsAsTheyWereFrom0To16() {
        for (int news = 0; news <= 16; news++) {
            does(news, heard(news), x -> x.lost(-1));
            does(news, heard(news), x -> x.lost(11));
        }
    }

    @Says("NEWS, STEPS are 0 then")
    static void promise20_newsAndStepsAreZeroThen() {
        for (int cell = -1; cell < 12; cell += 12) {
            AStreetByACane x = heard(16).get();
            x.lost(cell);
            is(0, x.status(3));
            is(0, x.status(4));
            is(1, x.step(false));
        }
    }

    @Says("He knows that he is in a CELL")
    static void promise20_inTruthHeStays() {
        AStreetByACane x = ready(y -> y.begin(4));
        x.lost(7);
        is(0, x.right());
        x.lost(-1);
        is(4, x.begin(4));
    }

    @Says({"NEWS, STEPS are 0 then. -1", "-1 NOBODY: no such SHELF, CELL"})
    static void promise20_minus1_noSuchCell() {
        for (int cells : new int[] {2, 12, 24}) {
            Supplier<AStreetByACane> stepped = with(x -> {
                x.street(cells);
                x.step(false);
            });
            for (int cell : new int[] {-2, cells, cells + 1, MIN, MAX}) {
                refuses(-1, stepped, x -> x.lost(cell));
            }
        }
    }

    // ---- promise 21: odds

    @Says("ODDS of a CELL")
    static void promise21_theFirstAndTheLastCell() {
        Supplier<AStreetByACane> ends = with(x -> {
            x.street(3);
            x.wander(2, 3);
            x.step(false);
        });
        tells(2, ends, x -> x.odds(0));
        tells(7, ends, x -> x.odds(1));
        tells(21, ends, x -> x.odds(2));
        for (int cells : new int[] {2, 12, 24}) {
            tells(1, longBy(cells), x -> x.odds(0));
            tells(1, longBy(cells), x -> x.odds(cells - 1));
        }
    }

    @Says("all together (NONE)")
    static void promise21_allTogether() {
        for (int cells : new int[] {2, 12, 24}) {
            tells(cells, longBy(cells), x -> x.odds(-1));
        }
        tells(1, with(x -> x.lost(11)), x -> x.odds(-1));
    }

    @Says("all together (NONE)")
    static void promise21_allTogetherAtTheirGreatest() {
        AStreetByACane x = new AStreetByACane();
        x.street(24);
        x.sign(0, 23, 1, 0);
        for (int i = 0; i < 16; i++) {
            x.feel(0, false);
        }
        is(10000000000000000L, x.odds(0));
        is(10000000000000000L, x.odds(22));
        is(1853020188851841L, x.odds(23));
        is(23 * 10000000000000000L + 1853020188851841L, x.odds(-1));
    }

    @Says("all together (NONE). -1")
    static void promise21_minus1_noSuchCell() {
        for (int cells : new int[] {2, 12, 24}) {
            for (int cell : new int[] {-2, cells, cells + 1, MIN, MAX}) {
                refuses(-1, longBy(cells), x -> x.odds(cell));
            }
        }
    }

    // ---- promise 22: strength

    private static void strengths(Supplier<AStreetByACane> making, int... due) {
        for (int c = 0; c < due.length; c++) {
            int cell = c;
            tells(due[c], making, x -> x.strength(0, cell));
        }
        refuses(-1, making, x -> x.strength(0, due.length));
    }

    private static Supplier<AStreetByACane> sign(int cells, int kind, int cell, int a, int b) {
        return with(x -> {
            x.street(cells);
            x.sign(kind, cell, a, b);
        });
    }

    private static Supplier<AStreetByACane> inSnow(Supplier<AStreetByACane> making) {
        return () -> {
            AStreetByACane x = making.get();
            x.ask(1, 1);
            return x;
        };
    }

    private static Supplier<AStreetByACane> atHour(int hour, Supplier<AStreetByACane> making) {
        return () -> {
            AStreetByACane x = making.get();
            x.ask(0, hour);
            return x;
        };
    }

    @Says("SIGN: a in its CELL, else 0")
    static void promise22_signInItsCell() {
        strengths(sign(3, 0, 0, 10, 255), 10, 0, 0);
        strengths(sign(3, 0, 1, 1, 0), 0, 1, 0);
        strengths(inSnow(sign(3, 0, 2, 7, 0)), 0, 0, 7);
    }

    @Says("FELT: as SIGN; but 0, if SNOW lies")
    static void promise22_feltAndSnow() {
        strengths(sign(3, 1, 0, 10, 2), 10, 0, 0);
        strengths(sign(3, 1, 2, 1, 2), 0, 0, 1);
        strengths(inSnow(sign(3, 1, 0, 10, 2)), 0, 0, 0);
        strengths(inSnow(sign(3, 1, 2, 1, 2)), 0, 0, 0);
    }

    @Says("SLOPE: as FELT without regard to SNOW; half of it (cut), if SNOW lies")
    static void promise22_slopeHalfCutIfSnowLies() {
        int[] halves = {0, 1, 1, 2, 2, 3, 3, 4, 4, 5};
        for (int a = 1; a <= 10; a++) {
            strengths(sign(2, 4, 1, a, 0), 0, a);
            strengths(inSnow(sign(2, 4, 1, a, 0)), 0, halves[a - 1]);
        }
    }

    @Says("FALSE: as FELT; in CELL b modulo LONG likewise")
    static void promise22_falseInCellBModuloLong() {
        strengths(sign(3, 6, 0, 9, 0), 9, 0, 0);
        strengths(sign(3, 6, 0, 9, 1), 9, 9, 0);
        strengths(sign(3, 6, 0, 9, 2), 9, 0, 9);
        strengths(sign(3, 6, 0, 9, 3), 9, 0, 0);
        strengths(sign(3, 6, 1, 9, 5), 0, 9, 9);
        strengths(sign(3, 6, 1, 9, 255), 9, 9, 0);
        strengths(sign(2, 6, 0, 9, 255), 9, 9);
        strengths(inSnow(sign(3, 6, 0, 9, 1)), 0, 0, 0);
    }

    @Says("SOUND: a in its CELL, half of it (cut) in those beside it, else 0")
    static void promise22_soundBesideIt() {
        int[] halves = {0, 1, 1, 2, 2, 3, 3, 4, 4, 5};
        for (int a = 1; a <= 10; a++) {
            int half = halves[a - 1];
            strengths(sign(5, 2, 2, a, 0), 0, half, a, half, 0);
        }
        strengths(sign(4, 2, 0, 9, 0), 9, 4, 0, 0);
        strengths(sign(4, 2, 3, 9, 0), 0, 0, 4, 9);
        strengths(inSnow(sign(2, 2, 0, 9, 0)), 9, 4);
    }

    @Says("SMELT: as SOUND, if bit HOUR of b is 1; else 0")
    static void promise22_smeltFromHour0ToHour7() {
        for (int hour = 0; hour < 8; hour++) {
            strengths(atHour(hour, sign(4, 3, 1, 9, 1 << hour)), 4, 9, 4, 0);
            strengths(atHour(hour, sign(4, 3, 1, 9, 255 - (1 << hour))), 0, 0, 0, 0);
            strengths(atHour(hour, sign(2, 3, 0, 1, 255)), 1, 0);
            strengths(atHour(hour, sign(2, 3, 0, 10, 0)), 0, 0);
        }
    }

    @Says("COUNT: a in every CELL, if STEPS are b; else 0")
    static void promise22_countIfStepsAreB() {
        for (int b : new int[] {0, 1, 15, 16, 17, 255}) {
            for (int steps : new int[] {0, 1, 2, 14, 15, 16}) {
                int due = steps == b ? 7 : 0;
                strengths(with(x -> {
                    x.street(3);
                    x.sign(5, 1, 7, b);
                    hear(x, steps);
                }), due, due, due);
            }
        }
    }

    @Says({"STRENGTH of a SIGN in a CELL now. -1", "no such SHELF, CELL, SIGN"})
    static void promise22_minus1_noSuchSign() {
        for (int number : new int[] {-1, 3, 8, MIN, MAX}) {
            refuses(-1, with(x -> manySigns(x, 3)), x -> x.strength(number, 0));
            refuses(-1, with(x -> manySigns(x, 3)), x -> x.strength(number, 12));
        }
        tells(5, with(x -> manySigns(x, 3)), x -> x.strength(2, 0));
        tells(5, with(x -> manySigns(x, 8)), x -> x.strength(7, 0));
        refuses(-1, with(x -> manySigns(x, 8)), x -> x.strength(8, 0));
        refuses(-1, fresh(), x -> x.strength(0, 0));
    }

    @Says({"STRENGTH of a SIGN in a CELL now. -1", "CELLS 0 to LONG less 1"})
    static void promise22_minus1_noSuchCell() {
        for (int cells : new int[] {2, 12, 24}) {
            Supplier<AStreetByACane> one = sign(cells, 0, 0, 5, 0);
            for (int cell : new int[] {-1, cells, MIN, MAX}) {
                refuses(-1, one, x -> x.strength(0, cell));
            }
            tells(5, one, x -> x.strength(0, 0));
            tells(0, one, x -> x.strength(0, cells - 1));
        }
    }

    // ---- promise 23: step

    private static Supplier<AStreetByACane> walker(int cells, int stays, int twos, int cell) {
        return with(x -> {
            x.street(cells);
            x.wander(stays, twos);
            x.lost(cell);
        });
    }

    private static void steps(Supplier<AStreetByACane> making, boolean back, long... due) {
        AStreetByACane x = making.get();
        is(1, x.step(back));
        odds(x, due);
        is(1, x.status(3));
        is(1, x.status(4));
    }

    @Says({"a step stays where it is by STAYS tenths, goes two by TWOS tenths", "else one CELL"})
    static void promise23_byTheLeastAndTheMostWander() {
        steps(walker(5, 0, 0, 2), false, 0, 0, 0, 1, 0);
        steps(walker(5, 10, 0, 2), false, 0, 0, 1, 0, 0);
        steps(walker(5, 0, 10, 2), false, 0, 0, 0, 0, 1);
        steps(walker(5, 0, 0, 2), true, 0, 1, 0, 0, 0);
        steps(walker(5, 10, 0, 2), true, 0, 0, 1, 0, 0);
        steps(walker(5, 0, 10, 2), true, 1, 0, 0, 0, 0);
        steps(walker(5, 3, 7, 2), false, 0, 0, 3, 0, 7);
        steps(walker(5, 2, 1, 2), true, 1, 7, 2, 0, 0);
    }

    @Says("no farther than the end of the street")
    static void promise23_noFartherThanTheEnd() {
        steps(walker(4, 2, 3, 3), false, 0, 0, 0, 1);
        steps(walker(4, 2, 3, 2), false, 0, 0, 1, 4);
        steps(walker(4, 2, 3, 1), false, 0, 2, 5, 3);
        steps(walker(4, 2, 3, 0), true, 1, 0, 0, 0);
        steps(walker(4, 2, 3, 1), true, 4, 1, 0, 0);
        steps(walker(4, 2, 3, 2), true, 3, 5, 2, 0);
        steps(walker(2, 2, 3, 0), false, 1, 4);
        steps(walker(2, 2, 3, 1), true, 4, 1);
    }

    @Says("of each CELL's ODDS STAYS times stay, TWOS times go two, the rest of ten times one")
    static void promise23_ofEachCellsOdds() {
        steps(walker(3, 1, 1, -1), false, 1, 9, 20);
        steps(walker(3, 1, 1, -1), true, 20, 9, 1);
        steps(walker(24, 0, 10, -1), false, 0, 0, 1, 1, 1, 1, 1, 1, 1, 1, 1, 1, 1, 1, 1, 1, 1, 1, 1, 1, 1, 1, 1, 3);
    }

    @Says("none of them has a common part but 1 (they are made smaller by what goes into all)")
    static void promise23_noCommonPart() {
        steps(walker(3, 4, 2, 0), false, 2, 2, 1);
        steps(walker(3, 10, 0, -1), false, 1, 1, 1);
        steps(walker(3, 5, 5, 0), false, 1, 0, 1);
        steps(walker(3, 5, 0, -1), false, 1, 2, 3);
    }

    @Says("A STEP onward, or back: NEWS")
    static void promise23_upTo16News() {
        AStreetByACane x = new AStreetByACane();
        for (int news = 1; news <= 16; news++) {
            is(news, x.step(news % 2 == 0));
            is(news, x.status(3));
            is(news, x.status(4));
        }
        is(-7, x.step(false));
        is(16, x.status(4));
    }

    @Says({"-7 more than 16", "NEWS: steps and signs since he was set down, or lost (16 at most)"})
    static void promise23_minus7_moreThan16() {
        for (boolean back : new boolean[] {false, true}) {
            does(16, heard(15), x -> x.step(back));
            refuses(-7, heard(16), x -> x.step(back));
        }
        does(1, with(x -> {
            hear(x, 16);
            x.lost(0);
        }), x -> x.step(false));
        does(1, with(x -> {
            hear(x, 16);
            x.street(12);
        }), x -> x.step(false));
    }

    @Says("NEWS: steps and signs")
    static void promise23_minus7_signsCountToo() {
        Supplier<AStreetByACane> mixed = with(x -> {
            manySigns(x, 1);
            for (int i = 0; i < 8; i++) {
                x.feel(0, false);
                x.step(false);
            }
        });
        is(16, mixed.get().status(3));
        is(8, mixed.get().status(4));
        refuses(-7, mixed, x -> x.step(false));
    }

    // ---- promise 24: feel

    private static Supplier<AStreetByACane> feeler(int a, int cell) {
        return with(x -> {
            x.street(3);
            x.sign(0, 1, a, 0);
            x.lost(cell);
        });
    }

    @Says("A SIGN is there, or isn't: NEWS")
    static void promise24_newsButNoSteps() {
        AStreetByACane x = heard(0).get();
        for (int news = 1; news <= 16; news++) {
            is(news, x.feel(0, false));
            is(news, x.status(3));
            is(0, x.status(4));
        }
    }

    @Says("ODDS of each CELL times its STRENGTH (times ten less it)")
    static void promise24_byTheLeastAndTheGreatestStrength() {
        AStreetByACane x = feeler(1, -1).get();
        x.feel(0, false);
        odds(x, 10, 9, 10);
        x = feeler(1, -1).get();
        x.feel(0, true);
        odds(x, 0, 1, 0);
        x = feeler(10, -1).get();
        x.feel(0, false);
        odds(x, 1, 0, 1);
        x = feeler(10, -1).get();
        x.feel(0, true);
        odds(x, 0, 1, 0);
        x = ready(y -> {
            y.street(3);
            y.sign(2, 1, 8, 0);
        });
        x.feel(0, true);
        odds(x, 1, 2, 1);
        x.feel(0, false);
        odds(x, 3, 2, 3);
    }

    @Says("that can't be, if no ODDS were left")
    static void promise24_minus6_itCannotBe() {
        refuses(-6, feeler(10, 1), x -> x.feel(0, false));
        does(1, feeler(9, 1), x -> x.feel(0, false));
        does(1, feeler(10, 1), x -> x.feel(0, true));
        does(1, feeler(1, 1), x -> x.feel(0, true));
        refuses(-6, feeler(10, 0), x -> x.feel(0, true));
        refuses(-6, feeler(10, 2), x -> x.feel(0, true));
        does(1, feeler(10, 0), x -> x.feel(0, false));
        does(1, feeler(10, 2), x -> x.feel(0, false));
        does(1, feeler(10, -1), x -> x.feel(0, true));
        does(1, feeler(10, -1), x -> x.feel(0, false));
    }

    @Says("that can't be, if no ODDS were left")
    static void promise24_minus6_itCannotBeAnywhere() {
        Supplier<AStreetByACane> count = with(x -> {
            x.street(24);
            x.sign(5, 0, 10, 1);
        });
        refuses(-6, count, x -> x.feel(0, true));
        does(1, count, x -> x.feel(0, false));
        Supplier<AStreetByACane> then = with(x -> {
            x.street(24);
            x.sign(5, 0, 10, 1);
            x.step(false);
        });
        refuses(-6, then, x -> x.feel(0, false));
        does(2, then, x -> x.feel(0, true));
        refuses(-6, inSnow(sign(12, 1, 3, 5, 0)), x -> x.feel(0, true));
        refuses(-6, inSnow(sign(12, 4, 3, 1, 0)), x -> x.feel(0, true));
        refuses(-6, sign(12, 3, 3, 10, 254), x -> x.feel(0, true));
    }

    @Says({"-1; -6 it can't be; -7", "no such SHELF, CELL, SIGN"})
    static void promise24_minus1_noSuchSign() {
        for (int number : new int[] {-1, 3, 8, MIN, MAX}) {
            refuses(-1, with(x -> manySigns(x, 3)), x -> x.feel(number, true));
            refuses(-1, with(x -> manySigns(x, 3)), x -> x.feel(number, false));
        }
        does(1, with(x -> manySigns(x, 3)), x -> x.feel(2, true));
        does(1, with(x -> manySigns(x, 8)), x -> x.feel(7, false));
        refuses(-1, with(x -> manySigns(x, 8)), x -> x.feel(8, true));
    }

    @Says({"-1; -6 it can't be; -7", "(16 at most)"})
    static void promise24_minus7_moreThan16() {
        does(16, heard(15), x -> x.feel(0, true));
        does(16, heard(15), x -> x.feel(0, false));
        refuses(-7, heard(16), x -> x.feel(0, true));
        refuses(-7, heard(16), x -> x.feel(0, false));
    }

    @Says("-1; -6 it can't be; -7")
    static void promise24_minus1_comesBefore_minus7() {
        refuses(-1, heard(16), x -> x.feel(1, true));
        refuses(-1, heard(16), x -> x.feel(-1, false));
    }

    @Says("-6 it can't be; -7")
    static void promise24_minus6_comesBefore_minus7() {
        Supplier<AStreetByACane> sure = with(x -> {
            x.sign(0, 3, 10, 0);
            x.lost(3);
            hear(x, 16);
        });
        refuses(-6, sure, x -> x.feel(0, false));
        refuses(-7, sure, x -> x.feel(0, true));
    }

    // ---- promise 25: where

    @Says({"SURE", "the CELL of the greatest ODDS"})
    static void promise25_theFirstAndTheLastCell() {
        tells(0, with(x -> x.lost(0)), x -> x.where());
        tells(11, with(x -> x.lost(11)), x -> x.where());
        tells(23, with(x -> {
            x.street(24);
            x.step(false);
        }), x -> x.where());
    }

    @Says("of several the first")
    static void promise25_ofSeveralTheFirst() {
        tells(0, fresh(), x -> x.where());
        tells(0, longBy(24), x -> x.where());
        for (boolean back : new boolean[] {false, true}) {
            tells(back ? 2 : 3, with(x -> {
                x.wander(5, 0);
                x.lost(3);
                x.step(back);
            }), x -> x.where());
        }
        tells(1, with(x -> {
            x.sign(6, 11, 10, 1);
            x.feel(0, true);
        }), x -> x.where());
    }

    // ---- promise 26: isLost

    @Says({"1 if he is LOST, else 0", "twice its ODDS are less than all ODDS"})
    static void promise26_justTheHalfIsNotLost() {
        tells(0, longBy(2), x -> x.isLost());
        tells(1, longBy(3), x -> x.isLost());
        tells(1, fresh(), x -> x.isLost());
        tells(0, with(x -> x.lost(0)), x -> x.isLost());
        tells(0, with(x -> {
            x.wander(5, 0);
            x.lost(3);
            x.step(false);
        }), x -> x.isLost());
        tells(1, with(x -> {
            x.wander(4, 2);
            x.lost(3);
            x.step(false);
        }), x -> x.isLost());
        tells(0, with(x -> {
            x.wander(4, 1);
            x.lost(3);
            x.step(false);
        }), x -> x.isLost());
    }

    // ---- promises 27 and 28: judge, told

    /** Six cells, he is in CELL 1 and never slips; SIGN 0 is sure in CELL 2. */
    private static void known(AStreetByACane x) {
        x.street(6);
        x.wander(0, 0);
        x.sign(0, 2, 10, 0);
        x.lost(1);
    }

    private static Supplier<AStreetByACane> news(int... told) {
        return with(x -> {
            known(x);
            put(x, 0, told);
        });
    }

    /** So many news heard, and a row of steps onward. */
    private static Supplier<AStreetByACane> newsBehind(int heard, int row) {
        return with(x -> {
            hear(x, heard);
            put(x, 0, new int[row]);
        });
    }

    /** 0: twenty steps; 1: one number that is no news; 2: a SIGN; 3: no elements; 7: NOTHING. */
    private static final Supplier<AStreetByACane> TOLD = with(x -> {
        put(x, 0, new int[20]);
        put(x, 1, 99, 99);
        putSign(x, 2);
        x.row(3, 2, 0);
    });

    @Says("the first n elements (0 to 16) of the ROW in SHELF s")
    static void promise27_fromNoElementsTo16() {
        tells(-1, TOLD, x -> x.judge(0, 0));
        tells(-1, TOLD, x -> x.judge(3, 0));
        tells(-1, TOLD, x -> x.judge(1, 0));
        tells(-1, TOLD, x -> x.judge(0, 16));
        tells(-1, newsBehind(0, 16), x -> x.judge(0, 16));
    }

    @Says("Steps onward and back (0, 1) and signs (10 and the number there, 20 and it not)")
    static void promise27_stepsAndSigns() {
        tells(-1, news(STEP, THERE, BACK, NOT_THERE), x -> x.judge(0, 4));
        tells(0, news(THERE), x -> x.judge(0, 1));
        tells(1, news(STEP, NOT_THERE), x -> x.judge(0, 2));
        tells(1, news(BACK, THERE), x -> x.judge(0, 2));
    }

    @Says("the place at which they can't go on (no such number")
    static void promise27_noSuchNumber() {
        for (int number : new int[] {-1, 2, 3, 9, 28, 29, 100, MIN, MAX, MIN + THERE, MIN + NOT_THERE}) {
            tells(0, news(number), x -> x.judge(0, 1));
            tells(2, news(STEP, STEP, number, STEP), x -> x.judge(0, 4));
        }
    }

    @Says("(no such number, SIGN;")
    static void promise27_noSuchSign() {
        Supplier<AStreetByACane> eight = with(x -> {
            manySigns(x, 8);
            put(x, 0, 10, 20, 17, 27, 18);
            put(x, 1, 28);
        });
        tells(4, eight, x -> x.judge(0, 5));
        tells(0, eight, x -> x.judge(1, 1));
        Supplier<AStreetByACane> three = with(x -> {
            manySigns(x, 3);
            put(x, 0, 12, 22, 13);
            put(x, 1, 23);
        });
        tells(2, three, x -> x.judge(0, 3));
        tells(0, three, x -> x.judge(1, 1));
        tells(0, with(x -> put(x, 0, THERE)), x -> x.judge(0, 1));
        tells(0, with(x -> put(x, 0, NOT_THERE)), x -> x.judge(0, 1));
    }

    @Says("it can't be; NEWS would be above 16); NONE")
    static void promise27_itCannotBe() {
        tells(1, news(STEP, NOT_THERE, 99), x -> x.judge(0, 3));
        tells(-1, news(STEP, THERE), x -> x.judge(0, 2));
        tells(3, news(STEP, THERE, STEP, THERE), x -> x.judge(0, 4));
    }

    @Says("NEWS would be above 16")
    static void promise27_newsAbove16() {
        tells(-1, newsBehind(16, 1), x -> x.judge(0, 0));
        tells(0, newsBehind(16, 1), x -> x.judge(0, 1));
        tells(-1, newsBehind(15, 2), x -> x.judge(0, 1));
        tells(1, newsBehind(15, 2), x -> x.judge(0, 2));
        tells(-1, newsBehind(1, 16), x -> x.judge(0, 15));
        tells(15, newsBehind(1, 16), x -> x.judge(0, 16));
        tells(0, with(x -> {
            manySigns(x, 1);
            hear(x, 16);
            put(x, 0, NOT_THERE);
        }), x -> x.judge(0, 1));
    }

    @Says("(As ints: of longs the lowest 32 bits.)")
    static void promise27_ofLongsTheLowest32Bits() {
        Supplier<AStreetByACane> longs = with(x -> {
            known(x);
            putLongs(x, 0, 7L << 32, (1L << 32) + THERE, (1L << 32) + BACK, (1L << 32) + 2);
        });
        tells(-1, longs, x -> x.judge(0, 3));
        tells(3, longs, x -> x.judge(0, 4));
    }

    /** The refusals that judge() and told() share; told() asks for one more. */
    private interface Asked {
        long on(AStreetByACane x, int s, int n);
    }

    private static void sharedMinus1(Asked asked) {
        for (int s : new int[] {-1, 8, MIN, MAX}) {
            refuses(-1, TOLD, x -> asked.on(x, s, 1));
        }
    }

    private static void sharedMinus4(Asked asked) {
        refuses(-4, TOLD, x -> asked.on(x, 0, -1));
        refuses(-4, TOLD, x -> asked.on(x, 0, MIN));
        refuses(-4, TOLD, x -> asked.on(x, 3, -1));
    }

    private static void sharedMinus5(Asked asked) {
        refuses(-5, TOLD, x -> asked.on(x, 3, 1));
        refuses(-5, newsBehind(0, 15), x -> asked.on(x, 0, 16));
        refuses(-5, newsBehind(0, 1), x -> asked.on(x, 0, 2));
    }

    private static void sharedMinus6(Asked asked) {
        refuses(-6, TOLD, x -> asked.on(x, 0, 17));
        refuses(-6, TOLD, x -> asked.on(x, 0, 20));
        refuses(-6, newsBehind(0, 17), x -> asked.on(x, 0, 17));
        refuses(-6, newsBehind(0, 160), x -> asked.on(x, 0, 160));
    }

    private static void sharedComesBefore(int first, int s, Asked asked, int... ns) {
        for (int n : ns) {
            refuses(first, TOLD, x -> asked.on(x, s, n));
        }
    }

    @Says("NONE. -1; -2; -3; -4 n; -5 fewer elements; -6 n above 16")
    static void promise27_minus1_noSuchShelf() {
        sharedMinus1(AStreetByACane::judge);
    }

    @Says("-2 OTHER: a SHELF that holds a SIGN where a ROW is wanted")
    static void promise27_minus2_aShelfWithASign() {
        refuses(-2, TOLD, x -> x.judge(2, 0));
    }

    @Says("-3 NOTHING: a SHELF that holds NOTHING")
    static void promise27_minus3_aShelfWithNothing() {
        refuses(-3, TOLD, x -> x.judge(7, 0));
    }

    @Says("-4 n;")
    static void promise27_minus4_nBelow0() {
        sharedMinus4(AStreetByACane::judge);
    }

    @Says("-5 fewer elements")
    static void promise27_minus5_fewerElements() {
        sharedMinus5(AStreetByACane::judge);
        tells(-1, newsBehind(0, 15), x -> x.judge(0, 15));
    }

    @Says("-6 n above 16")
    static void promise27_minus6_nAbove16() {
        sharedMinus6(AStreetByACane::judge);
        tells(-1, newsBehind(0, 17), x -> x.judge(0, 16));
    }

    @Says("-1; -2; -3; -4 n; -5 fewer elements; -6 n above 16")
    static void promise27_minus1_comesBefore_minus4_minus5_minus6() {
        sharedComesBefore(-1, 8, AStreetByACane::judge, -1, 161, 17);
    }

    @Says("-2; -3; -4 n; -5 fewer elements; -6 n above 16")
    static void promise27_minus2_comesBefore_minus4_minus5_minus6() {
        sharedComesBefore(-2, 2, AStreetByACane::judge, -1, 1, 17);
    }

    @Says("-3; -4 n; -5 fewer elements; -6 n above 16")
    static void promise27_minus3_comesBefore_minus4_minus5_minus6() {
        sharedComesBefore(-3, 7, AStreetByACane::judge, -1, 1, 17);
    }

    @Says("-5 fewer elements; -6 n above 16")
    static void promise27_minus5_comesBefore_minus6() {
        sharedComesBefore(-5, 0, AStreetByACane::judge, 21, 161, MAX);
        sharedComesBefore(-5, 3, AStreetByACane::judge, 17);
    }

    @Says("SURE behind them")
    static void promise28_fromNoElementsTo16() {
        tells(1, news(STEP, STEP), x -> x.told(0, 0));
        tells(2, news(STEP, STEP), x -> x.told(0, 1));
        tells(3, news(STEP, STEP), x -> x.told(0, 2));
        tells(5, news(new int[16]), x -> x.told(0, 16));
        tells(0, with(x -> x.row(0, 0, 0)), x -> x.told(0, 0));
        tells(2, with(x -> {
            put(x, 0, THERE);
            x.sign(0, 2, 1, 0);
        }), x -> x.told(0, 1));
    }

    @Says("(As ints: of longs the lowest 32 bits.)")
    static void promise28_ofLongsTheLowest32Bits() {
        Supplier<AStreetByACane> longs = with(x -> {
            known(x);
            putLongs(x, 0, 7L << 32, 1L << 40, (1L << 32) + BACK, (1L << 32) + 2);
        });
        tells(3, longs, x -> x.told(0, 2));
        tells(2, longs, x -> x.told(0, 3));
        refuses(-6, longs, x -> x.told(0, 4));
    }

    @Says("-1; -2; -3; -4; -5; -6 likewise")
    static void promise28_minus1_noSuchShelf() {
        sharedMinus1(AStreetByACane::told);
    }

    @Says("-2 OTHER: a SHELF that holds a SIGN where a ROW is wanted")
    static void promise28_minus2_aShelfWithASign() {
        refuses(-2, TOLD, x -> x.told(2, 0));
    }

    @Says("-3 NOTHING: a SHELF that holds NOTHING")
    static void promise28_minus3_aShelfWithNothing() {
        refuses(-3, TOLD, x -> x.told(7, 0));
    }

    @Says("-4; -5; -6 likewise")
    static void promise28_minus4_nBelow0() {
        sharedMinus4(AStreetByACane::told);
    }

    @Says("-5; -6 likewise")
    static void promise28_minus5_fewerElements() {
        sharedMinus5(AStreetByACane::told);
        tells(11, with(x -> {
            x.wander(0, 0);
            put(x, 0, new int[15]);
        }), x -> x.told(0, 15));
    }

    @Says("-6 likewise")
    static void promise28_minus6_nAbove16() {
        sharedMinus6(AStreetByACane::told);
        tells(11, with(x -> {
            x.wander(0, 0);
            put(x, 0, new int[17]);
        }), x -> x.told(0, 16));
    }

    @Says("they can't go on")
    static void promise28_minus6_theyCannotGoOn() {
        refuses(-6, TOLD, x -> x.told(1, 1));
        refuses(-6, news(STEP, STEP, 2), x -> x.told(0, 3));
        tells(3, news(STEP, STEP, 2), x -> x.told(0, 2));
        refuses(-6, news(STEP, 11), x -> x.told(0, 2));
        refuses(-6, news(STEP, NOT_THERE), x -> x.told(0, 2));
        tells(2, news(STEP, THERE), x -> x.told(0, 2));
        refuses(-6, newsBehind(16, 1), x -> x.told(0, 1));
        tells(0, newsBehind(16, 1), x -> x.told(0, 0));
        refuses(-6, newsBehind(1, 16), x -> x.told(0, 16));
    }

    @Says("-1; -2; -3; -4; -5; -6 likewise")
    static void promise28_minus1_comesBefore_minus4_minus5_minus6() {
        sharedComesBefore(-1, 8, AStreetByACane::told, -1, 161, 17);
    }

    @Says("-2; -3; -4; -5; -6 likewise")
    static void promise28_minus2_comesBefore_minus4_minus5_minus6() {
        sharedComesBefore(-2, 2, AStreetByACane::told, -1, 1, 17);
    }

    @Says("-3; -4; -5; -6 likewise")
    static void promise28_minus3_comesBefore_minus4_minus5_minus6() {
        sharedComesBefore(-3, 7, AStreetByACane::told, -1, 1, 17);
    }

    @Says("-5; -6 likewise, they can't go on")
    static void promise28_minus5_comesBefore_minus6() {
        sharedComesBefore(-5, 0, AStreetByACane::told, 21, 161, MAX);
        sharedComesBefore(-5, 1, AStreetByACane::told, 3, 17);
    }
}
