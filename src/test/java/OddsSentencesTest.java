import java.math.BigInteger;
import java.util.function.Supplier;

/** Promises 20 to 28, sentence by sentence, edges aside: where he is. */
public final class OddsSentencesTest extends Edge {
    private OddsSentencesTest() {
    }

    public static void main(String[] args) {
        run(OddsSentencesTest.class);
    }

    /** A SIGN of each KIND, its number the KIND's: in CELL 3, a 7, b 20, which is CELL 8 of 12 and the bits 2 and 4. */
    private static void oneOfEachKind(AStreetByACane x) {
        for (int kind = 0; kind < 7; kind++) {
            x.sign(kind, 3, 7, 20);
        }
    }

    // ---- promises 20 to 22

    @Says({"He knows that he is in a CELL (NONE: he knows nothing; ODDS are 1 each): NEWS as they were; NEWS, STEPS are 0 then.",
        "-1.", "STEPS: how many he has gone (0 at first).",
        "NEWS: steps and signs since he was set down, or lost (16 at most)."})
    static void promise20_heKnowsThatHeIsInACell() {
        AStreetByACane x = new AStreetByACane();
        x.street(4);
        x.sign(0, 1, 5, 0);
        x.begin(2);
        x.step(false);
        x.step(true);
        x.feel(0, false);
        is(3, x.status(3));
        is(2, x.status(4));
        is(3, x.lost(2));
        odds(x, 0, 0, 1, 0);
        is(0, x.status(3));
        is(0, x.status(4));
        is(1, x.step(false));
        is(1, x.status(4));
        is(1, x.lost(-1));
        odds(x, 1, 1, 1, 1);
        is(0, x.status(3));
        is(0, x.status(4));
        is(0, x.lost(0));
        odds(x, 1, 0, 0, 0);
        is(-1, x.lost(4));
        is(2, x.begin(0));
    }

    @Says({"ODDS of a CELL; all together (NONE).", "-1.", "ODDS of each CELL: a whole number (1 each at first);"
        + " none of them has a common part but 1 (they are made smaller by what goes into all)."})
    static void promise21_noCommonPart() {
        AStreetByACane x = new AStreetByACane();
        x.street(3);
        x.sign(0, 0, 4, 0);
        x.wander(0, 0);
        x.step(false);
        odds(x, 0, 1, 2);
        x.step(true);
        odds(x, 1, 2, 0);
        x.wander(4, 0);
        // 10 + 12, 8, 0 of ten times three
        x.step(true);
        odds(x, 11, 4, 0);
        // times 6, 10, 10
        x.feel(0, false);
        odds(x, 33, 20, 0);
        x.feel(0, true);
        odds(x, 1, 0, 0);
        is(-1, x.odds(3));
    }

    /** STRENGTHS of a SIGN of each KIND by CELLS 0 to 11, as oneOfEachKind() has them. */
    private static final int[][] STRENGTHS = {
        {0, 0, 0, 7, 0, 0, 0, 0, 0, 0, 0, 0},
        {0, 0, 0, 7, 0, 0, 0, 0, 0, 0, 0, 0},
        {0, 0, 3, 7, 3, 0, 0, 0, 0, 0, 0, 0},
        {0, 0, 0, 0, 0, 0, 0, 0, 0, 0, 0, 0},
        {0, 0, 0, 7, 0, 0, 0, 0, 0, 0, 0, 0},
        {0, 0, 0, 0, 0, 0, 0, 0, 0, 0, 0, 0},
        {0, 0, 0, 7, 0, 0, 0, 0, 7, 0, 0, 0},
    };
    private static final int[] NOWHERE = {0, 0, 0, 0, 0, 0, 0, 0, 0, 0, 0, 0};

    @Says({"STRENGTH of a SIGN in a CELL now.", "-1.", "STRENGTH of a SIGN in a CELL, in tenths: SIGN: a in its CELL, else 0.",
        "FELT: as SIGN; but 0, if SNOW lies.",
        "SLOPE: as FELT without regard to SNOW; half of it (cut), if SNOW lies. FALSE: as FELT; in CELL b modulo LONG likewise."
        + " SOUND: a in its CELL, half of it (cut) in those beside it, else 0. SMELT: as SOUND, if bit HOUR of b is 1; else 0."
        + " COUNT: a in every CELL, if STEPS are b; else 0."})
    static void promise22_strengthsOfEachKind() {
        AStreetByACane x = new AStreetByACane();
        oneOfEachKind(x);
        for (int kind = 0; kind < 7; kind++) {
            strengths(x, kind, STRENGTHS[kind]);
        }
        x.ask(1, 1);
        strengths(x, 1, NOWHERE);
        strengths(x, 6, NOWHERE);
        strengths(x, 4, 0, 0, 0, 3, 0, 0, 0, 0, 0, 0, 0, 0);
        for (int kind : new int[] {0, 2, 3, 5}) {
            strengths(x, kind, STRENGTHS[kind]);
        }
        is(-1, x.strength(7, 0));
        is(-1, x.strength(0, 12));
    }

    private static void strengths(AStreetByACane x, int sign, int... due) {
        for (int c = 0; c < due.length; c++) {
            is(due[c], x.strength(sign, c));
        }
    }

    @Says({"SMELT: as SOUND, if bit HOUR of b is 1; else 0.", "COUNT: a in every CELL, if STEPS are b; else 0."})
    static void promise22_smeltByHoursAndCountedBySteps() {
        AStreetByACane x = new AStreetByACane();
        oneOfEachKind(x);
        for (int hour = 0; hour < 8; hour++) {
            x.ask(0, hour);
            strengths(x, 3, hour == 2 || hour == 4 ? STRENGTHS[2] : NOWHERE);
            strengths(x, 2, STRENGTHS[2]);
        }
        AStreetByACane y = new AStreetByACane();
        y.sign(5, 3, 7, 2);
        for (int steps = 0; steps < 4; steps++) {
            strengths(y, 0, steps == 2 ? new int[] {7, 7, 7, 7, 7, 7, 7, 7, 7, 7, 7, 7} : NOWHERE);
            y.step(steps % 2 == 0);
        }
    }

    // ---- promises 23 and 24: ODDS behind each of the NEWS, told by fractions of their own

    @Says({"A STEP onward, or back: NEWS. -7 more than 16.", "A STEP onward (or back): ODDS go by WANDER: of each CELL's ODDS"
        + " STAYS times stay, TWOS times go two, the rest of ten times one.", "WANDER: a step stays where it is by STAYS tenths,"
        + " goes two by TWOS tenths (0 to 10 each, no more than 10 together; 1 and 1 at first), else one CELL; no farther than"
        + " the end of the street."})
    static void promise23_oddsGoByWander() {
        for (int stays = 0; stays <= 10; stays += 2) {
            for (int twos = 0; twos <= 10 - stays; twos++) {
                for (int cells : new int[] {2, 3, 5, 24}) {
                    walk(cells, stays, twos);
                }
            }
        }
    }

    private static void walk(int cells, int stays, int twos) {
        AStreetByACane x = new AStreetByACane();
        x.street(cells);
        x.wander(stays, twos);
        x.lost(cells / 2);
        for (int news = 1; news <= 16 && news * cells < 200; news++) {
            boolean back = news % 5 == 2 || news % 5 == 0;
            BigInteger[] due = zeros(cells);
            for (int c = 0; c < cells; c++) {
                int way = back ? -1 : 1;
                add(due, c, x.odds(c), stays);
                add(due, ended(c + way, cells), x.odds(c), 10 - stays - twos);
                add(due, ended(c + 2 * way, cells), x.odds(c), twos);
            }
            is(news, x.step(back));
            is(news, x.status(4));
            oddsAre(x, due);
        }
    }

    private static int ended(int cell, int cells) {
        return cell < 0 ? 0 : cell >= cells ? cells - 1 : cell;
    }

    private static BigInteger[] zeros(int cells) {
        BigInteger[] zeros = new BigInteger[cells];
        java.util.Arrays.fill(zeros, BigInteger.ZERO);
        return zeros;
    }

    private static void add(BigInteger[] to, int cell, long odds, int times) {
        to[cell] = to[cell].add(BigInteger.valueOf(odds).multiply(BigInteger.valueOf(times)));
    }

    /** The ODDS are these, once what goes into all of them is out. */
    private static void oddsAre(AStreetByACane x, BigInteger[] due) {
        BigInteger common = BigInteger.ZERO;
        for (BigInteger one : due) {
            common = common.gcd(one);
        }
        for (int c = 0; c < due.length; c++) {
            is(due[c].divide(common).longValueExact(), x.odds(c));
        }
    }

    @Says({"A SIGN is there, or isn't: NEWS.", "-1; -6 it can't be; -7.", "A SIGN is there (or isn't): ODDS of each CELL times"
        + " its STRENGTH (times ten less it); that can't be, if no ODDS were left."})
    static void promise24_oddsTimesStrength() {
        for (int first = 0; first < 40; first++) {
            AStreetByACane x = new AStreetByACane();
            x.street(6);
            oneOfEachKind(x);
            x.sign(0, 4, 10, 0);
            x.ask(0, 4);
            x.ask(1, first % 2);
            x.lost(first % 7 == 0 ? 3 : -1);
            x.step(first % 3 == 0);
            int draw = first;
            while (x.status(3) < 16 && draw < first + 400) {
                draw += 41;
                hears(x, draw % 8, draw % 3 != 1);
            }
        }
    }

    private static void hears(AStreetByACane x, int sign, boolean is) {
        BigInteger[] due = zeros(6);
        BigInteger all = BigInteger.ZERO;
        for (int c = 0; c < 6; c++) {
            int strength = x.strength(sign, c);
            add(due, c, x.odds(c), is ? strength : 10 - strength);
            all = all.add(due[c]);
        }
        int news = x.status(3);
        if (all.signum() == 0) {
            is(-6, x.feel(sign, is));
            is(news, x.status(3));
        } else {
            is(news + 1, x.feel(sign, is));
            oddsAre(x, due);
        }
    }

    // ---- promises 25 and 26

    @Says({"SURE.",
        "SURE: the CELL of the greatest ODDS, of several the first. LOST: twice its ODDS are less than all ODDS."})
    static void promise25_sureAndLost() {
        for (int a = 1; a <= 10; a++) {
            for (int other = 1; other <= 10; other++) {
                AStreetByACane x = new AStreetByACane();
                x.street(5);
                x.sign(0, 1, a, 0);
                x.sign(6, 3, other, 4);
                x.feel(0, false);
                x.feel(1, false);
                seeSure(x);
                x.lost(-1);
                x.feel(1, true);
                seeSure(x);
                x.step(true);
                seeSure(x);
                x.feel(0, true);
                seeSure(x);
            }
        }
    }

    private static void seeSure(AStreetByACane x) {
        int sure = 0;
        long all = 0;
        for (int c = 0; c < 5; c++) {
            sure = x.odds(c) > x.odds(sure) ? c : sure;
            all += x.odds(c);
        }
        is(sure, x.where());
        is(all, x.odds(-1));
        is(2 * x.odds(sure) < all ? 1 : 0, x.isLost());
    }

    @Says("1 if he is LOST, else 0.")
    static void promise26_lostOrNot() {
        tells(1, fresh(), x -> x.isLost());
        tells(0, with(x -> x.lost(7)), x -> x.isLost());
        tells(0, with(x -> x.street(2)), x -> x.isLost());
        tells(1, with(x -> x.street(3)), x -> x.isLost());
    }

    // ---- promises 27 and 28

    private static final Supplier<AStreetByACane> ON_THE_WAY = with(x -> {
        x.street(6);
        x.sign(0, 2, 10, 0);
        x.sign(5, 0, 10, 2);
        x.sign(2, 4, 6, 0);
        x.step(false);
    });

    @Says({"Steps onward and back (0, 1) and signs (10 and the number there, 20 and it not) told by the first n elements"
        + " (0 to 16) of the ROW in SHELF s: the place at which they can't go on (no such number, SIGN; it can't be; NEWS would"
        + " be above 16); NONE.", "-1; -2; -3; -4 n; -5 fewer elements; -6 n above 16."})
    static void promise27_thePlaceAtWhichTheyCantGoOn() {
        judges(-1, 0, 11, 10, 1, 21, 22);
        judges(5, 0, 11, 10, 1, 21, 12);
        judges(0, 11);
        judges(1, 0, 21);
        judges(2, 0, 10, 12, 0);
        judges(3, 20, 0, 12, 13);
        judges(1, 0, 2);
        judges(0, -1);
        judges(15, 0, 1, 0, 1, 0, 1, 0, 1, 0, 1, 0, 1, 0, 1, 0, 1);
        judges(-1, 0, 1, 0, 1, 0, 1, 0, 1, 0, 1, 0, 1, 0, 1, 0);
    }

    private static void judges(int due, int... told) {
        Supplier<AStreetByACane> making = behind(ON_THE_WAY, x -> {
            put(x, 2, told);
            return 0;
        });
        tells(due, making, x -> x.judge(2, told.length));
        if (due == -1) {
            tells(sureBehind(told), making, x -> x.told(2, told.length));
        } else {
            refuses(-6, making, x -> x.told(2, told.length));
        }
    }

    /** What he is sure of if he hears them one by one. */
    private static int sureBehind(int... told) {
        AStreetByACane x = ON_THE_WAY.get();
        for (int one : told) {
            isSo((one < 10 ? x.step(one == 1) : x.feel(one % 10, one < 20)) > 0);
        }
        return x.where();
    }

    @Says({"SURE behind them.", "-1; -2; -3; -4; -5; -6 likewise, they can't go on."})
    static void promise28_sureBehindThem() {
        // Behind a step from anywhere he is at the end most likely; behind the pole in CELL 2, in those from there on.
        Supplier<AStreetByACane> making = behind(ON_THE_WAY, x -> {
            put(x, 2, 10, 0, 0, 30);
            return 0;
        });
        tells(5, making, x -> x.told(2, 0));
        tells(2, making, x -> x.told(2, 1));
        tells(3, making, x -> x.told(2, 2));
        tells(4, making, x -> x.told(2, 3));
        refuses(-6, making, x -> x.told(2, 4));
    }
}
