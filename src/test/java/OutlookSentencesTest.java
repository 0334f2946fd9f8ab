import java.math.BigInteger;
import java.util.function.Supplier;

/** Promises 29 to 38, sentence by sentence, edges aside: what is made of it, reckoned from odds() and strength() alone. */
public final class OutlookSentencesTest extends Edge {
    private static final int STREETS = 60;

    private OutlookSentencesTest() {
    }

    public static void main(String[] args) {
        run(OutlookSentencesTest.class);
    }

    // ---- streets of all sorts, each the same whenever it is made

    private static Supplier<AStreetByACane> street(int number) {
        return with(x -> {
            int draw = number * 7919 + 13;
            x.street(2 + number % 9);
            x.wander(number % 4, number % 3);
            x.ask(0, number % 8);
            x.ask(1, number % 5 == 0 ? 1 : 0);
            for (int i = 0; i < 1 + number % 8; i++) {
                draw = draw * 31 + 7;
                x.sign((draw >>> 3) % 7, (draw >>> 7) % (2 + number % 9), 1 + (draw >>> 11) % 10, (draw >>> 17) % 256);
            }
            for (int i = 0; i < number % 6; i++) {
                draw = draw * 31 + 7;
                if (i % 2 == 0) {
                    x.feel(draw >>> 28, (draw & 64) == 0);
                } else {
                    x.step((draw & 64) == 0);
                }
            }
        });
    }

    private static long power(int of, int exponent) {
        return BigInteger.valueOf(of).pow(exponent).longValueExact();
    }

    private static long[] oddsOf(AStreetByACane x) {
        long[] odds = new long[x.status(0)];
        for (int c = 0; c < odds.length; c++) {
            odds[c] = x.odds(c);
        }
        return odds;
    }

    private static long greatest(long[] odds) {
        long most = 0;
        for (long one : odds) {
            most = Math.max(most, one);
        }
        return most;
    }

    private static long[] behind(long[] odds, int[] strengths, boolean is) {
        long[] then = odds.clone();
        for (int c = 0; c < odds.length; c++) {
            then[c] *= is ? strengths[c] : 10 - strengths[c];
        }
        return then;
    }

    private static int[][] strengthsOf(AStreetByACane x) {
        int[][] strengths = new int[x.status(1)][x.status(0)];
        for (int i = 0; i < strengths.length; i++) {
            for (int c = 0; c < strengths[i].length; c++) {
                strengths[i][c] = x.strength(i, c);
            }
        }
        return strengths;
    }

    /** Every set of answers to a set of SIGNS, bit by bit, one behind the other. */
    private static long worthOf(long[] odds, int[][] strengths, int signs) {
        long worth = 0;
        for (int answers = 0; answers < 1 << strengths.length; answers++) {
            if ((answers & ~signs) == 0) {
                long[] then = odds;
                for (int i = 0; i < strengths.length; i++) {
                    then = (signs >> i & 1) == 0 ? then : behind(then, strengths[i], (answers >> i & 1) != 0);
                }
                worth += greatest(then);
            }
        }
        return worth;
    }

    // ---- promises 29 to 32

    @Says({"WORTH of a set of SIGNS (bits).", "WORTH of a set of SIGNS, looked for all at once: the sum, over all answers to them,"
        + " of the greatest of ODDS times the STRENGTHS of those that are there, times ten less those of the others"
        + " (of ODDS times 10 to the power of how many).", "-1 bits beyond; -7 NEWS and how many are above 17."})
    static void promise29_worthOfEachSet() {
        for (int number = 0; number < STREETS; number++) {
            AStreetByACane x = street(number).get();
            long[] odds = oddsOf(x);
            int[][] strengths = strengthsOf(x);
            for (int signs = 0; signs < 1 << strengths.length; signs++) {
                is(worthOf(odds, strengths, signs), x.worth(signs));
            }
            is(-1, x.worth(1 << strengths.length));
        }
    }

    @Says({"NEXT.", "NEXT: the SIGN of the greatest WORTH, of several the first.", "-5 no SIGNS; -7 likewise."})
    static void promise30_nextOfEachStreet() {
        for (int number = 0; number < STREETS; number++) {
            AStreetByACane x = street(number).get();
            int best = 0;
            for (int i = 1; i < x.status(1); i++) {
                best = x.worth(1 << i) > x.worth(1 << best) ? i : best;
            }
            is(best, x.next());
        }
    }

    @Says({"TWO AHEAD.", "TWO AHEAD: the SIGN for which it is greatest if behind each answer the best one more is looked for"
        + " (another one, or none at ten times), of several the first.", "-5 no SIGNS; -7 NEWS above 15."})
    static void promise31_twoAheadOfEachStreet() {
        for (int number = 0; number < STREETS; number++) {
            AStreetByACane x = street(number).get();
            long[] odds = oddsOf(x);
            int[][] strengths = strengthsOf(x);
            int best = -1;
            long most = -1;
            for (int i = 0; i < strengths.length; i++) {
                long sum = 0;
                for (boolean is : new boolean[] {true, false}) {
                    long[] then = behind(odds, strengths[i], is);
                    long more = 10 * greatest(then);
                    for (int j = 0; j < strengths.length; j++) {
                        more = j == i ? more : Math.max(more, worthOf(then, strengths, 1 << j));
                    }
                    sum += more;
                }
                best = sum > most ? i : best;
                most = Math.max(most, sum);
            }
            is(best, x.ahead());
        }
    }

    @Says({"LEAST ROW for t (0 to 10) tenths (bits); NONE: none. -16; -17 NEWS above 9 (counted as -6, -7).",
        "LEAST ROW: of all sets of SIGNS whose WORTH is t tenths of all ODDS times 10 to the power of how many, at least,"
        + " the one of the fewest, of several the least as bits."})
    static void promise32_leastRowOfEachStreet() {
        for (int number = 0; number < STREETS; number++) {
            AStreetByACane x = street(number).get();
            long[] odds = oddsOf(x);
            int[][] strengths = strengthsOf(x);
            for (int t = 0; t <= 10; t++) {
                int best = -1;
                for (int signs = 0; signs < 1 << strengths.length; signs++) {
                    BigInteger worth = BigInteger.valueOf(worthOf(odds, strengths, signs)).multiply(BigInteger.TEN);
                    BigInteger all = BigInteger.valueOf(x.odds(-1)).multiply(BigInteger.TEN.pow(Integer.bitCount(signs)));
                    boolean enough = worth.compareTo(all.multiply(BigInteger.valueOf(t))) >= 0;
                    boolean fewer = best == -1 || Integer.bitCount(signs) < Integer.bitCount(best);
                    best = enough && fewer ? signs : best;
                }
                is(best, x.least(t));
            }
            is(-16, x.least(11));
        }
    }

    @Says("(nothing being changed)")
    static void promise29_nothingIsChanged() {
        for (int number = 0; number < STREETS; number += 7) {
            Supplier<AStreetByACane> making = street(number);
            long worth = making.get().worth(1);
            tells(worth, making, x -> x.worth(1));
            int next = making.get().next();
            tells(next, making, x -> x.next());
            int ahead = making.get().ahead();
            tells(ahead, making, x -> x.ahead());
            int least = making.get().least(7);
            tells(least, making, x -> x.least(7));
            Supplier<AStreetByACane> things = behind(making, x -> x.thing(0, true, 3) + x.thing(1, false, 4));
            tells(70 * (100 - 4 * 5), things, x -> x.safe(1, 0));
            tells(0, things, x -> x.first(0, 1));
            tells(1, things, x -> x.order(0, 1, 1));
            tells(8, things, x -> x.over(1, 1, 1, 0));
            tells(25, things, x -> x.learnt(1, 0));
            tells(1, things, x -> x.goings(25, 0));
        }
    }

    // ---- promises 33 to 35

    /** THINGS of all sorts; the ARC goes by the number too. */
    private static AStreetByACane things(int number) {
        AStreetByACane x = new AStreetByACane();
        int draw = number * 104729 + 5;
        x.ask(2, 1 + number % 9);
        for (int i = 0; i < number % 9; i++) {
            draw = draw * 31 + 7;
            x.thing((draw >>> 7) % 12, (draw >>> 12) % 3 == 0, 1 + (draw >>> 16) % 10);
        }
        return x;
    }

    private static boolean isOnWalk(AStreetByACane x, int thing, int from, int to) {
        int cell = x.thingOf(thing, 0);
        return from <= cell && cell <= to || to <= cell && cell <= from;
    }

    private static long safeBut(AStreetByACane x, int from, int to, int gone) {
        long safe = 1;
        for (int i = 0; i < x.status(2); i++) {
            int left = x.thingOf(i, 2);
            int knocks = x.thingOf(i, 1) == 1 ? left * 10 : left * (10 - x.status(7));
            safe *= !isOnWalk(x, i, from, to) || (gone >> i & 1) != 0 ? 1 : 100 - knocks;
        }
        return safe;
    }

    /** The one that is not gone yet without which SAFE is greatest; -1 if there is none. */
    private static int firstBut(AStreetByACane x, int from, int to, int gone) {
        int best = -1;
        for (int i = x.status(2) - 1; i >= 0; i--) {
            if (isOnWalk(x, i, from, to) && (gone >> i & 1) == 0) {
                boolean better = best == -1
                    || safeBut(x, from, to, gone | 1 << i) >= safeBut(x, from, to, gone | 1 << best);
                best = better ? i : best;
            }
        }
        return best;
    }

    @Says({"SAFE of a WALK. -1.", "A WALK from one CELL to another (either way): THINGS in CELLS on it, both ends, too.",
        "He KNOCKS at one that stands there, if it is HIGH, or lies beyond the ARC: low ones are missed by 10 less ARC tenths"
        + " (0 at least). SAFE: odds that he knocks at none, of 100 to the power of how many THINGS there are on it: of each 100,"
        + " less LEFT times 10 if it is HIGH, LEFT times (10 less ARC) if not."})
    static void promise33_safeOfWalks() {
        for (int number = 0; number < 45; number++) {
            for (int from = 0; from < 12; from += 1 + number % 3) {
                AStreetByACane x = things(number);
                for (int to = 0; to < 12; to += 3) {
                    is(safeBut(x, from, to, 0), x.safe(from, to));
                }
                is(-1, x.safe(from, 12));
            }
        }
    }

    @Says({"FIRST of a WALK. -1; -5 no THINGS are on it.",
        "FIRST: the THING on it without which SAFE (of those left) is greatest, of several the first."})
    static void promise34_firstOfWalks() {
        for (int number = 0; number < 45; number++) {
            int[][] walks = {{0, 11}, {11, 0}, {2, 7}, {9, 4}, {3, 3}};
            for (int[] walk : walks) {
                int best = firstBut(things(number), walk[0], walk[1], 0);
                is(best == -1 ? -5 : best, things(number).first(walk[0], walk[1]));
            }
        }
    }

    @Says({"The i-th of ORDER of a WALK. -1; -5 no such place.", "ORDER: FIRST, then FIRST of those left, and so on."})
    static void promise35_orderOfWalks() {
        for (int number = 0; number < 45; number++) {
            int[][] walks = {{0, 11}, {10, 1}, {2, 7}};
            for (int[] walk : walks) {
                int gone = 0;
                for (int i = 0; i < 9; i++) {
                    int best = firstBut(things(number), walk[0], walk[1], gone);
                    is(best == -1 ? -5 : best, things(number).order(walk[0], walk[1], i));
                    gone |= best == -1 ? 0 : 1 << best;
                }
            }
        }
    }

    // ---- promises 36 to 38

    @Says({"OVER.", "OVER a road of w steps (1 to 9) with DRIFT l to the left, r to the right (tenths, 10 at most together):"
        + " odds that he comes up k CELLS to the right (below 0: left), of 10 to the power of w.", "-6 also k beyond w either way."})
    static void promise36_overByHowManyStepsGoLeft() {
        int calls = 0;
        AStreetByACane x = new AStreetByACane();
        for (int w = 1; w <= 9; w++) {
            for (int l = 0; l <= 10; l++) {
                for (int r = 0; r <= 10 - l; r++) {
                    for (int k = -w; k <= w; k++) {
                        x = ++calls % 500 == 0 ? new AStreetByACane() : x;
                        is(drifted(w, l, r, k), x.over(w, l, r, k));
                    }
                }
            }
        }
        is(-6, new AStreetByACane().over(9, 1, 1, 10));
    }

    /** Of w steps so many go left, k more than these right, the others straight on. */
    private static long drifted(int w, int l, int r, int k) {
        long sum = 0;
        for (int left = 0; left <= w; left++) {
            int right = left + k;
            int straight = w - left - right;
            if (right >= 0 && straight >= 0) {
                sum += chosen(w, left) * chosen(w - left, right) * power(l, left) * power(r, right) * power(10 - l - r, straight);
            }
        }
        return sum;
    }

    private static long chosen(int of, int many) {
        return many == 0 ? 1 : chosen(of - 1, many - 1) * of / many;
    }

    /** What is left of 100 behind 0, 1, .. goings. */
    private static final int[] UNKNOWN = {100, 75, 56, 42, 31, 23, 17, 12, 9, 6, 4, 3, 2, 1, 0};
    /** What is known of 100 behind 0, 1, .. weeks. */
    private static final int[] KNOWN = {100, 90, 81, 72, 64, 57, 51, 45, 40, 36, 32, 28, 25, 22, 19, 17, 15, 13, 11, 9, 8, 7, 6,
        5, 4, 3, 2, 1, 0};

    @Says({"LEARNT by n goings and FORGOTTEN by m weeks: what of 100 is known. -6.", "LEARNT by n goings (0 to 99): 100 less what"
        + " is left of 100 if each going leaves three quarters of it, cut each time;",
        "FORGOTTEN by m weeks (0 to 99): a tenth less each week, cut up (less at least 1, as long as there is something)."})
    static void promise37_learntAndForgotten() {
        for (int n = 0; n <= 99; n++) {
            is(100 - UNKNOWN[Math.min(n, UNKNOWN.length - 1)], new AStreetByACane().learnt(n, 0));
        }
        for (int m = 0; m <= 99; m++) {
            is(KNOWN[Math.min(m, KNOWN.length - 1)], new AStreetByACane().learnt(99, m));
        }
        // 25 known: 3, 3, 2, 2, 2, 2, 2, 1 .. are less
        int[] behindOne = {25, 22, 19, 17, 15, 13, 11, 9, 8, 7, 6, 5, 4, 3, 2, 1, 0, 0};
        for (int m = 0; m < behindOne.length; m++) {
            is(behindOne[m], new AStreetByACane().learnt(1, m));
        }
        is(-6, new AStreetByACane().learnt(100, 0));
        is(-6, new AStreetByACane().learnt(0, 100));
    }

    @Says({"GOINGS for p (0 to 100) behind m weeks; NONE. -16 (counted as -6).",
        "GOINGS: the fewest by which p of 100 are LEARNT still behind m weeks; NONE: not by 99."})
    static void promise38_theFewestGoings() {
        for (int p = 0; p <= 100; p++) {
            for (int m = 0; m < 30; m++) {
                AStreetByACane x = new AStreetByACane();
                int fewest = -1;
                for (int n = 99; n >= 0; n--) {
                    fewest = x.learnt(n, m) >= p ? n : fewest;
                }
                is(fewest, x.goings(p, m));
            }
        }
        is(-16, new AStreetByACane().goings(101, 0));
    }
}
