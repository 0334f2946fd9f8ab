import java.util.function.Supplier;

/** Edges of promises 44 to 48: acts, their trace, the image, and how many. */
public final class ActsEdgesTest extends Edge {
    private static final int FEELS = 0;
    private static final int TEACHES = 1;
    private static final int FADES = 2;

    private ActsEdgesTest() {
    }

    public static void main(String[] args) {
        run(ActsEdgesTest.class);
    }

    /** Eight SIGNS, of KIND 0 to 6 and of KIND 0 again, each with this b. */
    private static Supplier<AStreetByACane> ofAllKinds(int b) {
        return with(x -> {
            for (int i = 0; i < 8; i++) {
                x.sign(i % 7, 0, 1, b);
            }
        });
    }

    private static void acts(int due, int b, int sign, int act, int given) {
        does(due, ofAllKinds(b), x -> x.act(sign, act, given));
    }

    private static void ran(AStreetByACane x, int... bodies) {
        is(bodies.length, x.status(8));
        for (int i = 0; i < bodies.length; i++) {
            is(bodies[i], x.trace(i));
        }
        is(-1, x.trace(bodies.length));
        is(-1, x.trace(-1));
        is(-1, x.trace(19));
        is(-1, x.trace(20));
    }

    private static void leaves(int sign, int act, int... bodies) {
        AStreetByACane x = ofAllKinds(3).get();
        x.act(sign, act, 1);
        ran(x, bodies);
    }

    // ---- promise 44: act

    @Says("An ACT of a SIGN with x")
    static void promise44_theFirstAndTheLastSignAndAct() {
        acts(5, 3, 0, FEELS, 5);
        acts(10 ^ 2, 3, 0, FADES, 5);
        acts(12, 3, 7, FEELS, 5);
        acts(24 ^ 9, 3, 7, FADES, 5);
    }

    @Says({"ACTS of SIGNS, with x (wrapping)", "10 feels: x + m"})
    static void promise44_feelsWrapsAround() {
        acts(MAX, 0, 0, FEELS, MAX);
        acts(MIN + 6, 0, 7, FEELS, MAX);
        acts(MIN + 7, 0, 7, FEELS, MIN);
        acts(MIN + 1 + 254, 255, 1, FEELS, MAX);
        acts(2 * (MIN + 4), 9, 5, FEELS, MAX);
    }

    @Says({"with x (wrapping)", "11 teaches: feels(x) * 2"})
    static void promise44_teachesWrapsAround() {
        acts(-2, 0, 0, TEACHES, MAX);
        acts(0, 0, 0, TEACHES, MIN);
        acts(MIN, 0, 0, TEACHES, 1 << 30);
        acts((MIN + 3 + 255) * 6, 255, 4, TEACHES, MAX);
        acts((MAX - 255 + 5) * 4, 255, 5, TEACHES, MAX);
        acts((MIN - 255 + 5) * 4, 255, 5, TEACHES, MIN);
        acts((MIN + 6 + 255) * 2, 255, 6, TEACHES, MAX);
    }

    @Says({"12 fades: teaches(x) ^ feels(x - k)", "m the number, k its b"})
    static void promise44_fadesWrapsAround() {
        acts(0 ^ MAX - 254, 255, 0, FADES, MIN);
        acts(MIN, 0, 0, FADES, MIN);
        acts(-2 ^ MAX, 0, 0, FADES, MAX);
    }

    @Says("50 fades: -super.fades(x)")
    static void promise44_theLeastIntLessNothingWraps() {
        AStreetByACane x = ready(y -> y.sign(2, 0, 1, 0));
        is(MIN, x.act(0, FADES, MIN));
    }

    @Says("each with its number: SIGN: 10 feels: x + m. 11 teaches: feels(x) * 2. 12 fades: teaches(x) ^ feels(x - k).")
    static void promise44_bodiesOfSign() {
        acts(6, 3, 0, FEELS, 6);
        acts(12, 3, 0, TEACHES, 6);
        acts(12 ^ 3, 3, 0, FADES, 6);
    }

    @Says("FELT: 20 feels: super.feels(x) + k.")
    static void promise44_bodiesOfFelt() {
        acts(6 + 1 + 3, 3, 1, FEELS, 6);
        acts(20, 3, 1, TEACHES, 6);
        acts(20 ^ 7, 3, 1, FADES, 6);
        acts(7, 0, 1, FEELS, 6);
        acts(262, 255, 1, FEELS, 6);
    }

    @Says("SLOPE: 30 teaches: super.teaches(x) * 3.")
    static void promise44_bodiesOfSlope() {
        acts(13, 3, 4, FEELS, 6);
        acts(78, 3, 4, TEACHES, 6);
        acts(78 ^ 10, 3, 4, FADES, 6);
    }

    @Says("FALSE: 40 teaches: super.teaches(x + 1). 41 fades: super.fades(x) - m.")
    static void promise44_bodiesOfFalse() {
        acts(15, 3, 6, FEELS, 6);
        acts(32, 3, 6, TEACHES, 6);
        acts((32 ^ 12) - 6, 3, 6, FADES, 6);
        AStreetByACane x = ready(y -> y.sign(6, 0, 1, 0));
        is(MIN * 2, x.act(0, TEACHES, MAX));
    }

    @Says("SOUND: 50 fades: -super.fades(x).")
    static void promise44_bodiesOfSound() {
        acts(8, 3, 2, FEELS, 6);
        acts(16, 3, 2, TEACHES, 6);
        acts(-(16 ^ 5), 3, 2, FADES, 6);
    }

    @Says("SMELT: 60 fades: super.fades(x) ^ 5.")
    static void promise44_bodiesOfSmelt() {
        acts(9, 3, 3, FEELS, 6);
        acts(18, 3, 3, TEACHES, 6);
        acts(-(18 ^ 6) ^ 5, 3, 3, FADES, 6);
    }

    @Says("COUNT: 70 feels: super.feels(x) * 2. 71 teaches: super.teaches(x - k).")
    static void promise44_bodiesOfCount() {
        acts(22, 3, 5, FEELS, 6);
        acts(32, 3, 5, TEACHES, 6);
        acts(32 ^ 16, 3, 5, FADES, 6);
    }

    @Says("0, and no TRACE then: no such SIGN")
    static void promise44_noSuchSign() {
        for (int sign : new int[] {-1, 8, MIN, MAX}) {
            acts(0, 3, sign, FEELS, 6);
            AStreetByACane x = ofAllKinds(3).get();
            x.act(0, FADES, 6);
            x.act(sign, FEELS, 6);
            ran(x);
        }
        does(0, fresh(), x -> x.act(0, FEELS, 6));
        Supplier<AStreetByACane> three = with(x -> manySigns(x, 3));
        does(8, three, x -> x.act(2, FEELS, 6));
        does(0, three, x -> x.act(3, FEELS, 6));
    }

    @Says("no such SIGN, act")
    static void promise44_noSuchAct() {
        for (int act : new int[] {-1, 3, MIN, MAX}) {
            acts(0, 3, 0, act, 6);
            AStreetByACane x = ofAllKinds(3).get();
            x.act(0, FADES, 6);
            x.act(0, act, 6);
            ran(x);
        }
    }

    // ---- promise 45: trace

    @Says({"THE TRACE's i-th body", "in the order in which they began"})
    static void promise45_fromTheFirstBodyToTheLast() {
        leaves(0, FEELS, 10);
        leaves(0, TEACHES, 11, 10);
        leaves(0, FADES, 12, 11, 10, 10);
        leaves(1, FADES, 12, 11, 20, 10, 20, 10);
        leaves(2, FADES, 50, 12, 11, 10, 10);
        leaves(3, FADES, 60, 50, 12, 11, 10, 10);
        leaves(4, FADES, 12, 30, 11, 20, 10, 20, 10);
        leaves(5, FADES, 12, 71, 11, 70, 10, 70, 10);
        leaves(6, FADES, 41, 12, 40, 11, 20, 10, 20, 10);
        leaves(7, FEELS, 10);
    }

    /** "the first 20 are kept": no ACT runs more than eight bodies, so that all are kept of each. */
    @Says("the first 20 are kept")
    static void promise45_noActComesTo20Bodies() {
        for (int sign = 0; sign < 8; sign++) {
            for (int act = 0; act < 3; act++) {
                AStreetByACane x = ofAllKinds(255).get();
                x.act(sign, act, MIN);
                isSo(x.status(8) >= 1 && x.status(8) <= 8);
                isSo(x.trace(x.status(8) - 1) >= 10);
                is(-1, x.trace(x.status(8)));
            }
        }
    }

    @Says("NONE: none such")
    static void promise45_noneSuch() {
        Supplier<AStreetByACane> two = with(x -> {
            manySigns(x, 1);
            x.act(0, TEACHES, 1);
        });
        tells(11, two, x -> x.trace(0));
        tells(10, two, x -> x.trace(1));
        for (int i : new int[] {-1, 2, 19, 20, 21, MIN, MAX}) {
            tells(-1, two, x -> x.trace(i));
        }
        tells(-1, fresh(), x -> x.trace(0));
    }

    @Says("the bodies that ran in the latest act()")
    static void promise45_theLatestAct() {
        AStreetByACane x = ofAllKinds(3).get();
        x.act(6, FADES, 1);
        x.act(0, FEELS, 1);
        ran(x, 10);
        x.street(12);
        ran(x, 10);
        x.act(0, FEELS, 1);
        ran(x);
    }

    // ---- promises 46 and 47: image, restore

    private static final Supplier<AStreetByACane> LIVELY = with(x -> {
        x.street(10);
        x.wander(2, 3);
        x.ask(0, 6);
        x.ask(1, 1);
        x.ask(2, 8);
        manySigns(x, 3);
        manyThings(x, 2);
        x.lost(3);
        x.step(false);
        x.begin(9);
        x.seed(9);
    });

    private static void changeAll(AStreetByACane x) {
        x.street(24);
        x.wander(1, 1);
        x.ask(0, 0);
        x.ask(1, 0);
        x.ask(2, 1);
        manySigns(x, 8);
        x.sign(6, 23, 10, 255);
        manyThings(x, 8);
        x.step(true);
        x.feel(0, false);
        x.begin(0);
        x.seed(MIN);
    }

    @Says({"how many SIGNS", "THE IMAGE of all but SHELVES"})
    static void promise46_fromNoSignsToEight() {
        for (int signs = 0; signs <= 8; signs++) {
            int many = signs;
            does(signs, with(x -> manySigns(x, many)), x -> x.image());
        }
    }

    @Says("THE IMAGE of all but SHELVES (and THE IMAGE, REFUSALS, the FAULT, THE TRACE) is taken")
    static void promise46_allIsAsItWas() {
        Supplier<AStreetByACane> restored = behind(LIVELY, x -> {
            x.image();
            changeAll(x);
            return x.restore();
        });
        does(3, restored, x -> x.restore());
        isSo(everythingOf(LIVELY).split(" image: ")[0].equals(everythingOf(restored).split(" image: ")[0]));
    }

    @Says("is taken")
    static void promise46_aNewImageTakesThePlaceOfTheOneBefore() {
        AStreetByACane x = LIVELY.get();
        x.image();
        changeAll(x);
        is(8, x.image());
        x.street(2);
        is(8, x.restore());
        is(24, x.status(0));
        is(MIN, x.status(9));
    }

    @Says("is taken")
    static void promise46_whatChangesLaterIsNotInIt() {
        AStreetByACane x = new AStreetByACane();
        is(0, x.image());
        manySigns(x, 8);
        manyThings(x, 8);
        x.clear(0);
        is(0, x.restore());
        is(0, x.status(1));
        is(0, x.status(2));
        is(-5, x.signOf(0, 0));
    }

    @Says("All is as THE IMAGE has it")
    static void promise47_moreThanOnce() {
        AStreetByACane x = LIVELY.get();
        x.image();
        for (int i = 0; i < 3; i++) {
            changeAll(x);
            is(3, x.restore());
            is(3, x.restore());
            is(10, x.status(0));
            is(9, x.begin(9));
        }
    }

    @Says("SHELVES with SIGNS hold those of these numbers, or NOTHING")
    static void promise47_shelvesWithSigns() {
        AStreetByACane x = LIVELY.get();
        x.image();
        manySigns(x, 5);
        for (int s = 0; s < 8; s++) {
            x.show(s, s);
        }
        is(3, x.restore());
        for (int s = 0; s < 8; s++) {
            is(s < 3 ? s : -1, x.holds(s));
        }
        is(5, x.says(2, 0));
        is(-3, x.says(3, 0));
        changeAll(x);
        x.show(7, 2);
        x.restore();
        is(2, x.holds(7));
        is(5, x.says(7, 0));
    }

    @Says("SHELVES with SIGNS hold those of these numbers, or NOTHING")
    static void promise47_shelvesWithSignsOfAnImageWithNone() {
        AStreetByACane x = new AStreetByACane();
        x.image();
        manySigns(x, 8);
        x.show(0, 0);
        x.show(7, 7);
        is(0, x.restore());
        is(-1, x.holds(0));
        is(-1, x.holds(7));
    }

    @Says("All is as THE IMAGE has it; SHELVES with SIGNS")
    static void promise47_rowsStay() {
        AStreetByACane x = LIVELY.get();
        put(x, 0, 1, 2);
        x.image();
        x.set(0, 0, 7);
        x.row(7, 3, 160);
        x.restore();
        is(7, x.element(0, 0));
        is(2, x.element(0, 1));
        is(103, x.holds(7));
        is(1, x.set(7, 159, 1));
    }

    @Says("(and THE IMAGE, REFUSALS, the FAULT, THE TRACE)")
    static void promise46_refusalsFaultAndTraceAreNotInIt() {
        AStreetByACane x = LIVELY.get();
        x.image();
        x.row(8, 0, 0);
        put(x, 0, "arc 0");
        x.town(0);
        x.act(0, FEELS, 1);
        x.restore();
        is(1, x.status(11));
        is(1, x.status(16));
        is(4, x.fault());
        ran(x, 10);
    }

    @Says("how many SIGNS. -6 there is none")
    static void promise47_minus6_thereIsNone() {
        refuses(-6, fresh(), x -> x.restore());
        refuses(-6, LIVELY, x -> x.restore());
        does(0, with(x -> x.image()), x -> x.restore());
        does(8, with(x -> {
            manySigns(x, 8);
            x.image();
            x.street(2);
        }), x -> x.restore());
    }

    // ---- promise 48: status

    @Says("0 LONG, 1 SIGNS, 2 THINGS, 3 NEWS, 4 STEPS, 5 HOUR, 6 1 if SNOW lies, 7 ARC")
    static void promise48_theLeastAndTheGreatest() {
        AStreetByACane least = ready(x -> {
            x.street(2);
            x.ask(2, 1);
        });
        AStreetByACane most = ready(x -> {
            x.street(24);
            manySigns(x, 8);
            manyThings(x, 8);
            x.ask(0, 7);
            x.ask(1, 1);
            x.ask(2, 9);
            hear(x, 16);
        });
        int[] leastDue = {2, 0, 0, 0, 0, 0, 0, 1};
        int[] mostDue = {24, 8, 8, 16, 16, 7, 1, 9};
        for (int what = 0; what < 8; what++) {
            is(leastDue[what], least.status(what));
            is(mostDue[what], most.status(what));
        }
    }

    @Says("8 bodies that ran in the latest act() (all, kept or not), 9 SEED")
    static void promise48_bodiesAndSeed() {
        tells(0, fresh(), x -> x.status(8));
        tells(8, with(x -> {
            x.sign(6, 0, 1, 0);
            x.act(0, FADES, 0);
        }), x -> x.status(8));
        tells(0, with(x -> {
            x.sign(6, 0, 1, 0);
            x.act(0, FADES, 0);
            x.act(0, 3, 0);
        }), x -> x.status(8));
        for (int seed : new int[] {MIN, -1, 0, MAX}) {
            tells(seed, with(x -> x.seed(seed)), x -> x.status(9));
        }
    }

    @Says({"11 to 17: REFUSALS -1 to -7", "nothing changes but how many there were"})
    static void promise48_refusalsFromMinus1ToMinus7() {
        AStreetByACane x = new AStreetByACane();
        putSign(x, 1);
        for (int round = 1; round <= 3; round++) {
            is(-1, x.row(8, 0, 0));
            is(-2, x.set(1, 0, 0));
            is(-3, x.set(0, 0, 0));
            is(-4, x.row(0, 0, -1));
            is(-5, x.signOf(1, 0));
            is(-6, x.street(1));
            is(-7, x.row(0, 0, 161));
            for (int what = 11; what <= 17; what++) {
                is(round, x.status(what));
            }
        }
    }

    @Says("11 to 17: REFUSALS -1 to -7")
    static void promise48_leastAndGoingsAreCountedToo() {
        AStreetByACane x = new AStreetByACane();
        is(-16, x.least(11));
        is(-16, x.goings(101, 0));
        is(2, x.status(16));
        hear(x, 10);
        is(-17, x.least(0));
        is(1, x.status(17));
    }

    @Says("NONE for another what")
    static void promise48_anotherWhat() {
        for (int what : new int[] {-1, 10, 18, 19, MIN, MIN + 9, MIN + 10, MAX}) {
            tells(-1, LIVELY, x -> x.status(what));
        }
        tells(10, LIVELY, x -> x.status(0));
        tells(0, LIVELY, x -> x.status(17));
    }
}
