import java.util.ArrayList;
import java.util.List;
import java.util.function.Supplier;

/** Promises 39 to 48, and what stands of REFUSALS, sentence by sentence, edges aside. */
public final class TruthSentencesTest extends Edge {
    private TruthSentencesTest() {
    }

    public static void main(String[] args) {
        run(TruthSentencesTest.class);
    }

    // ---- promises 39 to 43: in truth

    /** A DRAW told with longs: what SEED is then, and the draw below ten. */
    private static int seedThen(int seed) {
        return (int) (seed * 1103515245L + 12345L & 0xffffffffL);
    }

    private static int drawn(int seed) {
        return (int) ((seed & 0xffffffffL) / 65536 % 10);
    }

    @Says({"He is set down IN TRUTH in a CELL; what he knows stays: the CELL he was in; NONE: nowhere. -1.",
        "IN TRUTH: he is set down in a CELL."})
    static void promise39_setDown() {
        AStreetByACane x = new AStreetByACane();
        x.street(5);
        x.lost(3);
        x.step(true);
        is(-1, x.begin(0));
        is(0, x.begin(4));
        is(4, x.begin(2));
        is(-1, x.begin(5));
        is(2, x.begin(2));
        odds(x, 0, 1, 8, 1, 0);
        is(1, x.status(3));
        is(1, x.status(4));
        is(1, x.right());
    }

    @Says({"A step IN TRUTH: 0 he stayed, 1, 2 CELLS as he meant (though the street may end sooner).",
        "-6 he isn't set down; -7.", "A step: a DRAW below 10: he stays, if below STAYS, else goes two, if below STAYS and TWOS,"
        + " else one; his ODDS go by the STEP.", "A DRAW below n: SEED (1 at first) becomes SEED times 1103515245, and 12345"
        + " (an int, wrapping); its upper 16 bits, no sign, modulo n."})
    static void promise40_stepsByDraws() {
        int seed = 1;
        int cell = 5;
        AStreetByACane x = new AStreetByACane();
        x.begin(cell);
        for (int walk = 0; walk < 12; walk++) {
            int stays = walk % 6;
            int twos = walk % 5;
            x.wander(stays, twos);
            x.lost(-1);
            for (int i = 0; i < 16; i++) {
                boolean back = (walk + i) % 3 == 0;
                seed = seedThen(seed);
                int cells = drawn(seed) < stays ? 0 : drawn(seed) < stays + twos ? 2 : 1;
                cell = Math.max(0, Math.min(11, back ? cell - cells : cell + cells));
                is(cells, x.goes(back));
                is(seed, x.status(9));
            }
            is(-7, x.goes(false));
            is(cell, x.begin(cell));
        }
    }

    @Says("his ODDS go by the STEP.")
    static void promise40_hisOddsGoByTheStep() {
        for (int news = 1; news <= 16; news++) {
            AStreetByACane x = new AStreetByACane();
            AStreetByACane y = new AStreetByACane();
            x.begin(0);
            for (int i = 0; i < news; i++) {
                x.goes(i % 3 == 0);
                is(i + 1, y.step(i % 3 == 0));
            }
            is(news, x.status(3));
            is(news, x.status(4));
            for (int c = 0; c < 12; c++) {
                is(y.odds(c), x.odds(c));
            }
        }
    }

    @Says({"A SIGN is looked for IN TRUTH: 1 it is there, 0 not.",
        "-1; -6 he isn't set down, what is so can't be by what he knows; -7.",
        "A SIGN looked for: a DRAW below 10: it is there, if below its STRENGTH in his CELL; his ODDS go by that."})
    static void promise41_looksByDraws() {
        for (int cell = 0; cell < 6; cell++) {
            int seed = 77 + cell;
            AStreetByACane x = looking(cell, seed);
            AStreetByACane y = looking(cell, seed);
            int refused = 0;
            for (int i = 0; i < 16; i++) {
                int sign = i % 4;
                int then = seedThen(seed);
                boolean is = drawn(then) < x.strength(sign, cell);
                boolean canBe = y.feel(sign, is) > 0;
                is(canBe ? is ? 1 : 0 : -6, x.looks(sign));
                seed = canBe ? then : seed;
                refused += canBe ? 0 : 1;
                is(seed, x.status(9));
                is(i + 1 - refused, x.status(3));
            }
            for (int c = 0; c < 6; c++) {
                is(y.odds(c), x.odds(c));
            }
        }
    }

    private static AStreetByACane looking(int cell, int seed) {
        AStreetByACane x = new AStreetByACane();
        x.street(6);
        x.sign(0, 2, 4, 0);
        x.sign(2, 3, 9, 0);
        x.sign(6, 0, 5, 4);
        x.sign(5, 0, 7, 0);
        x.begin(cell);
        x.seed(seed);
        return x;
    }

    @Says({"1 if he is in truth where he is SURE to be, else 0.", "-6 he isn't set down."})
    static void promise42_rightOrNot() {
        for (int cell = 0; cell < 12; cell++) {
            int truth = cell;
            tells(cell == 4 ? 1 : 0, with(x -> {
                x.lost(4);
                x.begin(truth);
            }), x -> x.right());
            tells(cell == 0 ? 1 : 0, with(x -> x.begin(truth)), x -> x.right());
        }
        refuses(-6, fresh(), x -> x.right());
    }

    @Says("SEED becomes v: what it was (nothing is refused).")
    static void promise43_seedBecomes() {
        AStreetByACane x = new AStreetByACane();
        is(1, x.seed(9));
        is(9, x.seed(MIN));
        is(MIN, x.seed(-1));
        is(-1, x.status(9));
        is(-1, x.seed(0));
        x.begin(0);
        x.goes(false);
        is(12345, x.status(9));
    }

    // ---- promises 44 and 45: ACTS by classes that are what the KINDS are, their bodies as the document has them

    private static final List<Integer> RAN = new ArrayList<>();

    private static class Sign {
        int m;
        int k;

        int feels(int x) {
            RAN.add(10);
            return x + m;
        }

        int teaches(int x) {
            RAN.add(11);
            return feels(x) * 2;
        }

        int fades(int x) {
            RAN.add(12);
            return teaches(x) ^ feels(x - k);
        }
    }

    private static class Felt extends Sign {
        @Override int feels(int x) {
            RAN.add(20);
            return super.feels(x) + k;
        }
    }

    private static final class Slope extends Felt {
        @Override int teaches(int x) {
            RAN.add(30);
            return super.teaches(x) * 3;
        }
    }

    private static final class False extends Felt {
        @Override int teaches(int x) {
            RAN.add(40);
            return super.teaches(x + 1);
        }

        @Override int fades(int x) {
            RAN.add(41);
            return super.fades(x) - m;
        }
    }

    private static class Sound extends Sign {
        @Override int fades(int x) {
            RAN.add(50);
            return -super.fades(x);
        }
    }

    private static final class Smelt extends Sound {
        @Override int fades(int x) {
            RAN.add(60);
            return super.fades(x) ^ 5;
        }
    }

    private static final class Count extends Sign {
        @Override int feels(int x) {
            RAN.add(70);
            return super.feels(x) * 2;
        }

        @Override int teaches(int x) {
            RAN.add(71);
            return super.teaches(x - k);
        }
    }

    private static Sign ofKind(int kind, int m, int k) {
        Sign[] each = {new Sign(), new Felt(), new Sound(), new Smelt(), new Slope(), new Count(), new False()};
        each[kind].m = m;
        each[kind].k = k;
        return each[kind];
    }

    @Says({"An ACT of a SIGN with x. 0, and no TRACE then: no such SIGN, act.",
        "ACTS of SIGNS, with x (wrapping): 0 feels, 1 teaches, 2 fades; m the number, k its b. BODIES, each with its number:"
        + " SIGN: 10 feels: x + m. 11 teaches: feels(x) * 2. 12 fades: teaches(x) ^ feels(x - k). FELT: 20 feels: super.feels(x) + k."
        + " SLOPE: 30 teaches: super.teaches(x) * 3. FALSE: 40 teaches: super.teaches(x + 1). 41 fades: super.fades(x) - m."
        + " SOUND: 50 fades: -super.fades(x). SMELT: 60 fades: super.fades(x) ^ 5. COUNT: 70 feels: super.feels(x) * 2."
        + " 71 teaches: super.teaches(x - k). feels(..) and so on: the body of the SIGN's KIND, or of the next KIND above that has"
        + " one; super: from the KIND above the body's on.",
        "THE TRACE: the numbers of the bodies that ran in the latest act(), in the order in which they began;"
        + " the first 20 are kept."})
    static void promise44_actsAsClassesHaveThem() {
        int[] given = {0, 1, -1, 5, 1000, MIN, MAX, 0x55555555, -0x12345678};
        for (int b = 0; b <= 255; b += 17) {
            for (int kind = 0; kind < 7; kind++) {
                for (int act = 0; act < 3; act++) {
                    actsAs(kind, b, act, given[(b / 17 + kind + act) % given.length]);
                }
            }
        }
        tells(0, fresh(), x -> x.act(0, 0, 1));
    }

    private static void actsAs(int kind, int b, int act, int given) {
        AStreetByACane x = new AStreetByACane();
        for (int i = 0; i < 8; i++) {
            x.sign((i + kind) % 7, 0, 1, b);
            Sign same = ofKind((i + kind) % 7, i, b);
            RAN.clear();
            is(act == 0 ? same.feels(given) : act == 1 ? same.teaches(given) : same.fades(given), x.act(i, act, given));
            is(RAN.size(), x.status(8));
            for (int at = 0; at < RAN.size(); at++) {
                is(RAN.get(at), x.trace(at));
            }
            is(-1, x.trace(RAN.size()));
        }
    }

    @Says("THE TRACE's i-th body. NONE: none such.")
    static void promise45_theTraceOfTheLatest() {
        AStreetByACane x = new AStreetByACane();
        x.sign(1, 0, 1, 0);
        is(-1, x.trace(0));
        x.act(0, 0, 1);
        is(20, x.trace(0));
        is(10, x.trace(1));
        is(-1, x.trace(2));
        is(-1, x.trace(-1));
        x.act(0, 3, 1);
        is(-1, x.trace(0));
    }

    // ---- promises 46 to 48

    private static final Supplier<AStreetByACane> LIVELY = with(x -> {
        x.street(9);
        x.wander(2, 3);
        x.ask(0, 6);
        x.ask(1, 1);
        x.ask(2, 8);
        x.sign(4, 3, 7, 9);
        x.sign(2, 8, 10, 200);
        x.thing(4, true, 9);
        x.lost(3);
        x.step(false);
        x.feel(0, false);
        x.begin(7);
        x.seed(-9);
    });

    @Says({"THE IMAGE of all but SHELVES (and THE IMAGE, REFUSALS, the FAULT, THE TRACE) is taken: how many SIGNS."})
    static void promise46_theImageOfAllButShelves() {
        does(2, LIVELY, x -> x.image());
        refuses(-6, LIVELY, x -> x.restore());
        AStreetByACane x = LIVELY.get();
        is(2, x.image());
        x.street(24);
        manySigns(x, 8);
        manyThings(x, 8);
        x.ask(2, 1);
        x.ask(1, 0);
        x.ask(0, 0);
        x.wander(0, 0);
        x.begin(23);
        x.goes(true);
        x.show(0, 1);
        x.show(1, 2);
        put(x, 2, 5);
        put(x, 3, "arc x");
        is(-6, x.town(3));
        x.act(0, 1, 1);
        is(2, x.restore());
        // Of what THE IMAGE doesn't hold nothing is brought back.
        int[] held = {1, -1, 102, 100, -1};
        for (int s = 0; s < held.length; s++) {
            is(held[s], x.holds(s));
        }
        is(4, x.fault());
        is(11, x.trace(0));
        is(1, x.status(16));
        is(5, x.says(0, 2));
        // All else is as it was.
        AStreetByACane y = LIVELY.get();
        for (int what : new int[] {0, 1, 2, 3, 4, 5, 6, 7, 9}) {
            is(y.status(what), x.status(what));
        }
        for (int c = -1; c < 9; c++) {
            is(y.odds(c), x.odds(c));
        }
        for (int i = 0; i < 12; i++) {
            is(i < 8 ? y.signOf(i / 4, i % 4) : y.thingOf(0, i - 8), i < 8 ? x.signOf(i / 4, i % 4) : x.thingOf(0, i - 8));
        }
        is(203, x.wander(1, 1));
        is(7, x.begin(0));
        is(2, x.restore());
        is(7, x.begin(0));
    }

    @Says({"All is as THE IMAGE has it; SHELVES with SIGNS hold those of these numbers, or NOTHING: how many SIGNS."
        + " -6 there is none.",
        "LONG told anew (street(), long N): SHELVES with SIGNS hold NOTHING then."})
    static void promise47_shelvesBehindARestore() {
        AStreetByACane x = new AStreetByACane();
        manySigns(x, 2);
        x.image();
        x.show(0, 1);
        is(12, x.street(12));
        is(-1, x.holds(0));
        is(2, x.restore());
        is(-1, x.holds(0));
        x.sign(0, 0, 9, 0);
        x.show(1, 1);
        x.show(2, 2);
        is(2, x.restore());
        is(1, x.holds(1));
        is(5, x.says(1, 0));
        is(-1, x.holds(2));
    }

    @Says("How many: 0 LONG, 1 SIGNS, 2 THINGS, 3 NEWS, 4 STEPS, 5 HOUR, 6 1 if SNOW lies, 7 ARC, 8 bodies that ran in the latest"
        + " act() (all, kept or not), 9 SEED; 11 to 17: REFUSALS -1 to -7. NONE for another what.")
    static void promise48_howMany() {
        AStreetByACane x = LIVELY.get();
        x.act(0, 2, 5);
        x.lost(9);
        x.lost(9);
        x.set(0, 0, 1);
        int[] due = {9, 2, 1, 2, 1, 6, 1, 8, 7, -9, -1, 2, 0, 1, 0, 0, 0, 0, -1};
        for (int what = 0; what < due.length; what++) {
            is(due[what], x.status(what));
        }
        is(-1, x.status(-1));
    }

    // ---- REFUSALS

    @Says({"REFUSALS (the call answers the number; nothing changes but how many there were; the first that fits, in this order):"
        + " -1 NOBODY: no such SHELF, CELL, SIGN, THING, KIND.", "-2 OTHER: a SHELF that holds a SIGN where a ROW is wanted, or the"
        + " other way about, ROWS of two SORTS, a SIGN that isn't of the KIND wanted, or one under it."
        + " -3 NOTHING: a SHELF that holds NOTHING. -4 BELOW: a size below 0."})
    static void promise48_refusalsMinus1ToMinus4() {
        Supplier<AStreetByACane> making = behind(LIVELY, x -> {
            x.show(0, 0);
            put(x, 1, 4, 5, 6);
            x.row(2, 1, 2);
            return 0;
        });
        refuses(-1, making, x -> x.row(8, 9, -1));
        refuses(-1, making, x -> x.lost(9));
        refuses(-1, making, x -> x.feel(2, true));
        refuses(-1, making, x -> x.clear(1));
        refuses(-1, making, x -> x.sign(7, 0, 0, 0));
        refuses(-2, making, x -> x.set(0, -1, 5));
        refuses(-2, making, x -> x.says(1, 0));
        refuses(-2, making, x -> x.copy(1, 2, 0, 0, -1));
        refuses(-2, making, x -> x.says(0, 5));
        refuses(-3, making, x -> x.town(3));
        refuses(-3, making, x -> x.judge(3, -1));
        refuses(-4, making, x -> x.row(3, 4, -1));
        refuses(-4, making, x -> x.things(1, -1, -1));
    }

    @Says("-5 BEYOND: an element that isn't there; nothing such to be told of. -6 WRONG: a number that may not be, a FAULT,"
        + " what can't be as things stand. -7 ROOM: more than may be.")
    static void promise48_refusalsMinus5ToMinus7() {
        Supplier<AStreetByACane> making = behind(LIVELY, x -> {
            put(x, 1, 4, 5, 6);
            hear(x, 14);
            return 0;
        });
        refuses(-5, making, x -> x.set(1, 3, 0));
        refuses(-5, making, x -> x.signOf(2, 0));
        refuses(-5, making, x -> x.order(0, 8, 1));
        refuses(-6, making, x -> x.over(10, 1, 1, 0));
        isSo(behind(making, x -> x.town(1)).get().fault() == 0);
        refuses(-6, behind(making, x -> x.lost(0)), x -> x.feel(1, true));
        refuses(-6, making, x -> x.restore());
        refuses(-7, making, x -> x.step(true));
        refuses(-7, making, x -> x.ahead());
        refuses(-7, making, x -> x.row(1, 3, 161));
    }
}
