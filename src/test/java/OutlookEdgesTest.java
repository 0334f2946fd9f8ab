import java.util.function.Supplier;

/** Edges of promises 29 to 38: what is made of it. */
public final class OutlookEdgesTest extends Edge {
    private static final long TEN_TO_17 = 100000000000000000L;

    private OutlookEdgesTest() {
    }

    public static void main(String[] args) {
        run(OutlookEdgesTest.class);
    }

    /** Eight SIGNS, the first of them in the last of 24 CELLS at one tenth, the others sure ones from CELL 0 on. */
    private static Supplier<AStreetByACane> eightSigns(int news) {
        return with(x -> {
            x.street(24);
            x.sign(0, 23, 1, 0);
            for (int i = 0; i < 7; i++) {
                x.sign(0, i, 10, 0);
            }
            for (int i = 0; i < news; i++) {
                x.feel(0, false);
            }
        });
    }

    private static Supplier<AStreetByACane> signs(int signs, int news) {
        return with(x -> {
            manySigns(x, signs);
            hear(x, news);
        });
    }

    // ---- promise 29: worth

    @Says({"WORTH of a set of SIGNS (bits)", "(of ODDS times 10 to the power of how many)"})
    static void promise29_ofNoSignsTheGreatestOfOdds() {
        tells(1, fresh(), x -> x.worth(0));
        tells(1, eightSigns(0), x -> x.worth(0));
        tells(21, with(x -> {
            x.street(3);
            x.wander(2, 3);
            x.step(false);
        }), x -> x.worth(0));
    }

    @Says("the sum, over all answers to them, of the greatest of ODDS times the STRENGTHS of those that are there")
    static void promise29_ofTheFirstTheLastAndAllSigns() {
        tells(1 + 10, eightSigns(0), x -> x.worth(1));
        tells(10 + 10, eightSigns(0), x -> x.worth(128));
        tells(100 + 100 + 10, eightSigns(0), x -> x.worth(129));
        // Each sure SIGN tells its CELL; of the rest the first SIGN tells one in ten of the last CELL.
        tells(8 * 100000000 + 10000000, eightSigns(0), x -> x.worth(255));
    }

    @Says("WORTH of a set of SIGNS, looked for all at once")
    static void promise29_theGreatestNumbers() {
        long ninthPower = 387420489L;
        tells(8 * TEN_TO_17 + ninthPower * 10000000, eightSigns(9), x -> x.worth(255));
        long sixteenthPower = 1853020188851841L;
        tells(TEN_TO_17 + sixteenthPower, eightSigns(16), x -> x.worth(1));
        tells(2 * TEN_TO_17, eightSigns(16), x -> x.worth(2));
    }

    @Says("-1 bits beyond")
    static void promise29_minus1_bitsBeyond() {
        for (int signs : new int[] {256, 257, 511, 1 << 30, -1, -256, MIN, MAX}) {
            refuses(-1, eightSigns(0), x -> x.worth(signs));
        }
        for (int count = 0; count < 8; count++) {
            int bits = 1 << count;
            refuses(-1, signs(count, 0), x -> x.worth(bits));
            isSo(signs(count, 0).get().worth(bits - 1) > 0);
        }
    }

    @Says("-7 NEWS and how many are above 17")
    static void promise29_minus7_newsAndHowManyAbove17() {
        for (int news = 9; news <= 16; news++) {
            int most = 17 - news;
            Supplier<AStreetByACane> eight = signs(8, news);
            long answer = eight.get().worth((1 << most) - 1);
            isSo(answer > 0);
            tells(answer, eight, x -> x.worth((1 << most) - 1));
            tells(answer, eight, x -> x.worth((1 << most) - 1 << 8 - most));
            if (most < 8) {
                refuses(-7, eight, x -> x.worth((1 << most + 1) - 1));
                refuses(-7, eight, x -> x.worth((1 << most + 1) - 1 << 7 - most));
            }
        }
    }

    @Says("-1 bits beyond; -7 NEWS and how many are above 17")
    static void promise29_minus1_comesBefore_minus7() {
        refuses(-1, signs(8, 16), x -> x.worth(256 + 3));
        refuses(-1, signs(1, 16), x -> x.worth(7));
        refuses(-1, signs(8, 16), x -> x.worth(-1));
    }

    // ---- promise 30: next

    @Says({"NEXT", "NEXT: the SIGN of the greatest WORTH"})
    static void promise30_theFirstAndTheLastOfEight() {
        for (int best = 0; best < 8; best += 7) {
            int sure = best;
            tells(best, with(x -> {
                for (int i = 0; i < 8; i++) {
                    x.sign(0, i, i == sure ? 10 : 9, 0);
                }
            }), x -> x.next());
        }
    }

    @Says("of several the first")
    static void promise30_ofSeveralTheFirst() {
        tells(0, signs(8, 0), x -> x.next());
        tells(1, eightSigns(0), x -> x.next());
        tells(0, with(x -> {
            manySigns(x, 3);
            x.lost(5);
        }), x -> x.next());
    }

    @Says({"-5 no SIGNS", "nothing such to be told of"})
    static void promise30_minus5_noSigns() {
        refuses(-5, fresh(), x -> x.next());
        refuses(-5, signs(0, 16), x -> x.next());
        tells(0, signs(1, 0), x -> x.next());
        refuses(-5, with(x -> {
            manySigns(x, 8);
            x.street(12);
        }), x -> x.next());
    }

    /** NEWS are 16 at most, so that they and one SIGN are never above 17. */
    @Says("-7 likewise")
    static void promise30_minus7_neverFits() {
        tells(0, signs(1, 15), x -> x.next());
        tells(0, signs(8, 16), x -> x.next());
        tells(1, eightSigns(16), x -> x.next());
    }

    // ---- promise 31: ahead

    @Says("if behind each answer the best one more is looked for (another one, or none at ten times)")
    static void promise31_ofOneSignNoneMore() {
        tells(0, signs(1, 0), x -> x.ahead());
        tells(0, with(x -> {
            x.sign(5, 0, 1, 9);
            x.lost(4);
        }), x -> x.ahead());
    }

    /** SIGN 0 is never there, so both orders come to 150 of 200; SIGN 1 looked for twice would come to 175. */
    @Says("(another one, or none at ten times)")
    static void promise31_neverTheSameTwice() {
        tells(0, with(x -> {
            x.street(2);
            x.sign(5, 0, 1, 9);
            x.sign(0, 1, 5, 0);
        }), x -> x.ahead());
    }

    /** SIGN 1 is never there: that answer adds nothing, so that both orders come to the same. */
    @Says("(another one, or none at ten times)")
    static void promise31_anAnswerThatCannotBeAddsNothing() {
        tells(0, with(x -> {
            x.street(2);
            x.sign(0, 1, 5, 0);
            x.sign(5, 0, 1, 9);
        }), x -> x.ahead());
    }

    @Says("(another one, or none at ten times)")
    static void promise31_theFirstSignAsTheOtherOne() {
        tells(1, with(x -> {
            x.street(4);
            x.sign(0, 0, 10, 0);
            x.sign(6, 0, 10, 1);
            x.sign(0, 2, 10, 0);
        }), x -> x.ahead());
    }

    @Says({"TWO AHEAD", "of several the first"})
    static void promise31_ofSeveralTheFirst() {
        tells(0, signs(8, 0), x -> x.ahead());
        tells(1, eightSigns(0), x -> x.ahead());
        tells(0, with(x -> {
            manySigns(x, 8);
            x.lost(3);
        }), x -> x.ahead());
    }

    /** The last SIGN halves the street, and one of the first two tells the CELLS of either half apart. */
    @Says("the SIGN for which it is greatest if behind each answer the best one more is looked for")
    static void promise31_theLastOfEight() {
        tells(7, with(x -> {
            x.street(4);
            x.sign(0, 0, 10, 0);
            x.sign(0, 2, 10, 0);
            for (int i = 2; i < 7; i++) {
                x.sign(0, 0, 10, 0);
            }
            x.sign(6, 0, 10, 1);
        }), x -> x.ahead());
    }

    @Says("-5 no SIGNS")
    static void promise31_minus5_noSigns() {
        refuses(-5, fresh(), x -> x.ahead());
        refuses(-5, signs(0, 15), x -> x.ahead());
        tells(0, signs(1, 15), x -> x.ahead());
    }

    @Says("-7 NEWS above 15")
    static void promise31_minus7_newsAbove15() {
        tells(0, signs(8, 15), x -> x.ahead());
        refuses(-7, signs(8, 16), x -> x.ahead());
        tells(1, eightSigns(15), x -> x.ahead());
        refuses(-7, eightSigns(16), x -> x.ahead());
    }

    @Says("-5 no SIGNS; -7 NEWS above 15")
    static void promise31_minus5_comesBefore_minus7() {
        refuses(-5, signs(0, 16), x -> x.ahead());
    }

    // ---- promise 32: least

    @Says({"LEAST ROW for t (0 to 10) tenths (bits); NONE: none", "-16"})
    static void promise32_minus16_tBelow0OrAbove10() {
        for (int t : new int[] {-1, 11, 12, MIN, MAX}) {
            refusesAs(-16, -6, signs(1, 0), x -> x.least(t));
            refusesAs(-16, -6, fresh(), x -> x.least(t));
        }
        tells(0, fresh(), x -> x.least(0));
        tells(-1, fresh(), x -> x.least(10));
    }

    @Says("-17 NEWS above 9 (counted as -6, -7)")
    static void promise32_minus17_newsAbove9() {
        tells(0, signs(8, 9), x -> x.least(0));
        tells(0, signs(0, 9), x -> x.least(0));
        for (int news = 10; news <= 16; news += 6) {
            refusesAs(-17, -7, signs(8, news), x -> x.least(0));
            refusesAs(-17, -7, signs(0, news), x -> x.least(10));
        }
    }

    @Says("-16; -17 NEWS above 9 (counted as -6, -7)")
    static void promise32_minus16_comesBefore_minus17() {
        refusesAs(-16, -6, signs(8, 10), x -> x.least(-1));
        refusesAs(-16, -6, signs(8, 16), x -> x.least(11));
    }

    @Says("of all sets of SIGNS whose WORTH is t tenths of all ODDS times 10 to the power of how many, at least")
    static void promise32_justTTenths() {
        Supplier<AStreetByACane> two = with(x -> x.street(2));
        tells(0, two, x -> x.least(5));
        tells(-1, two, x -> x.least(6));
        // one SIGN comes to 14 of 20, just seven tenths
        Supplier<AStreetByACane> one = with(x -> {
            x.street(2);
            x.sign(0, 0, 4, 0);
        });
        tells(1, one, x -> x.least(7));
        tells(-1, one, x -> x.least(8));
        // both come to 164 of 200
        Supplier<AStreetByACane> both = with(x -> {
            x.street(2);
            x.sign(0, 0, 4, 0);
            x.sign(0, 1, 4, 0);
        });
        tells(1, both, x -> x.least(7));
        is(both.get().worth(3) >= 160 ? 3 : -1, both.get().least(8));
        tells(-1, both, x -> x.least(9));
    }

    @Says("the one of the fewest, of several the least as bits")
    static void promise32_theFewestOfSeveralTheLeast() {
        Supplier<AStreetByACane> three = with(x -> {
            x.street(3);
            x.sign(0, 0, 10, 0);
            x.sign(0, 1, 10, 0);
            x.sign(0, 2, 10, 0);
        });
        tells(0, three, x -> x.least(3));
        tells(1, three, x -> x.least(4));
        tells(1, three, x -> x.least(6));
        tells(3, three, x -> x.least(7));
        tells(3, three, x -> x.least(10));
        // one SIGN alone does what the first two do together
        tells(4, with(x -> {
            x.street(2);
            x.sign(0, 0, 5, 0);
            x.sign(0, 0, 5, 0);
            x.sign(0, 1, 10, 0);
        }), x -> x.least(8));
    }

    @Says("LEAST ROW for t (0 to 10) tenths")
    static void promise32_noSignsWhereHeKnows() {
        tells(0, with(x -> {
            manySigns(x, 8);
            x.lost(7);
        }), x -> x.least(10));
        tells(0, signs(8, 0), x -> x.least(0));
        // ODDS of 2, 7 and 21: the greatest is just seven tenths of all.
        Supplier<AStreetByACane> slipped = with(x -> {
            x.street(3);
            x.wander(2, 3);
            x.step(false);
        });
        tells(0, slipped, x -> x.least(7));
        tells(-1, slipped, x -> x.least(8));
    }

    @Says("NONE: none")
    static void promise32_allEightOrNone() {
        Supplier<AStreetByACane> nine = with(x -> {
            x.street(9);
            for (int i = 0; i < 8; i++) {
                x.sign(0, i, 10, 0);
            }
        });
        tells(255, nine, x -> x.least(10));
        tells(127, nine, x -> x.least(8));
        tells(-1, with(x -> {
            x.street(10);
            for (int i = 0; i < 8; i++) {
                x.sign(0, i, 10, 0);
            }
        }), x -> x.least(10));
    }

    @Says("LEAST ROW for t (0 to 10) tenths")
    static void promise32_theGreatestNumbers() {
        tells(0, eightSigns(9), x -> x.least(0));
        tells(-1, eightSigns(9), x -> x.least(10));
        // k sure SIGNS come to k + 1 CELLS of some 23.4, the first SIGN to a little more.
        tells(6, eightSigns(9), x -> x.least(1));
        tells(30, eightSigns(9), x -> x.least(2));
        tells(127, eightSigns(9), x -> x.least(3));
        tells(-1, eightSigns(9), x -> x.least(4));
    }

    // ---- promise 33: safe

    private static Supplier<AStreetByACane> oneThing(int cell, boolean high, int left, int arc) {
        return with(x -> {
            x.thing(cell, high, left);
            x.ask(2, arc);
        });
    }

    @Says("THINGS in CELLS on it, both ends, too")
    static void promise33_bothEndsToo() {
        Supplier<AStreetByACane> one = oneThing(4, true, 3, 5);
        tells(70, one, x -> x.safe(4, 8));
        tells(70, one, x -> x.safe(0, 4));
        tells(70, one, x -> x.safe(4, 4));
        tells(1, one, x -> x.safe(5, 8));
        tells(1, one, x -> x.safe(0, 3));
        tells(70, oneThing(0, true, 3, 5), x -> x.safe(0, 0));
        tells(70, oneThing(11, true, 3, 5), x -> x.safe(11, 11));
        tells(1, oneThing(11, true, 3, 5), x -> x.safe(0, 10));
        tells(1, oneThing(0, true, 3, 5), x -> x.safe(11, 1));
    }

    @Says("A WALK from one CELL to another (either way)")
    static void promise33_eitherWay() {
        Supplier<AStreetByACane> one = oneThing(4, true, 3, 5);
        tells(70, one, x -> x.safe(8, 4));
        tells(70, one, x -> x.safe(4, 0));
        tells(70, one, x -> x.safe(11, 0));
        tells(1, one, x -> x.safe(8, 5));
        tells(1, one, x -> x.safe(3, 0));
    }

    @Says("of 100 to the power of how many THINGS there are on it")
    static void promise33_fromNoThingsToEight() {
        tells(1, fresh(), x -> x.safe(0, 11));
        tells(1, fresh(), x -> x.safe(3, 3));
        tells(43046721L * 100000000L, with(x -> {
            for (int i = 0; i < 8; i++) {
                x.thing(i, true, 1);
            }
        }), x -> x.safe(0, 11));
        tells(9227446944279201L, with(x -> {
            x.ask(2, 9);
            for (int i = 0; i < 8; i++) {
                x.thing(3, false, 1);
            }
        }), x -> x.safe(3, 3));
    }

    @Says("of each 100, less LEFT times 10 if it is HIGH, LEFT times (10 less ARC) if not")
    static void promise33_theLeastAndTheGreatestLeftAndArc() {
        for (int arc = 1; arc <= 9; arc++) {
            tells(90, oneThing(0, true, 1, arc), x -> x.safe(0, 0));
            tells(0, oneThing(0, true, 10, arc), x -> x.safe(0, 0));
            tells(90 + arc, oneThing(0, false, 1, arc), x -> x.safe(0, 0));
            tells(10 * arc, oneThing(0, false, 10, arc), x -> x.safe(0, 0));
        }
    }

    private interface Walked {
        long on(AStreetByACane x, int from, int to);
    }

    private static void noSuchCell(Walked walked) {
        for (int cells : new int[] {2, 12, 24}) {
            Supplier<AStreetByACane> one = with(x -> {
                x.street(cells);
                x.thing(0, true, 1);
            });
            isSo(walked.on(one.get(), 0, cells - 1) >= 0);
            isSo(walked.on(one.get(), cells - 1, 0) >= 0);
            for (int cell : new int[] {-1, cells, MIN, MAX}) {
                refuses(-1, one, x -> walked.on(x, cell, 0));
                refuses(-1, one, x -> walked.on(x, 0, cell));
                refuses(-1, one, x -> walked.on(x, cell, cell));
            }
        }
    }

    @Says("SAFE of a WALK. -1")
    static void promise33_minus1_noSuchCell() {
        noSuchCell(AStreetByACane::safe);
    }

    // ---- promise 34: first

    @Says("FIRST: the THING on it without which SAFE (of those left) is greatest")
    static void promise34_theFirstAndTheLastOfEight() {
        for (int worst = 0; worst < 8; worst += 7) {
            int sure = worst;
            tells(worst, with(x -> {
                for (int i = 0; i < 8; i++) {
                    x.thing(i, true, i == sure ? 9 : 8);
                }
            }), x -> x.first(11, 0));
        }
    }

    @Says("of several the first")
    static void promise34_ofSeveralTheFirst() {
        tells(0, with(x -> manyThings(x, 8)), x -> x.first(0, 0));
        // two that he knocks at for sure: SAFE is 0 without any one of them
        tells(0, with(x -> {
            x.thing(0, false, 1);
            x.thing(0, true, 10);
            x.thing(0, true, 10);
        }), x -> x.first(0, 0));
        tells(1, with(x -> {
            x.thing(0, false, 1);
            x.thing(0, true, 10);
        }), x -> x.first(0, 0));
    }

    @Says("-5 no THINGS are on it")
    static void promise34_minus5_noThingsAreOnIt() {
        refuses(-5, fresh(), x -> x.first(0, 11));
        Supplier<AStreetByACane> one = oneThing(4, true, 3, 5);
        refuses(-5, one, x -> x.first(0, 3));
        refuses(-5, one, x -> x.first(5, 11));
        refuses(-5, one, x -> x.first(11, 5));
        tells(0, one, x -> x.first(0, 4));
        tells(0, one, x -> x.first(4, 11));
        tells(0, one, x -> x.first(4, 4));
    }

    @Says("FIRST of a WALK. -1")
    static void promise34_minus1_noSuchCell() {
        noSuchCell(AStreetByACane::first);
    }

    @Says("-1; -5 no THINGS are on it")
    static void promise34_minus1_comesBefore_minus5() {
        refuses(-1, fresh(), x -> x.first(0, 12));
        refuses(-1, fresh(), x -> x.first(-1, 0));
    }

    // ---- promise 35: order

    private static final Supplier<AStreetByACane> EIGHT_THINGS = with(x -> {
        for (int i = 0; i < 8; i++) {
            x.thing(i, true, i + 2);
        }
    });

    @Says({"The i-th of ORDER of a WALK", "ORDER: FIRST, then FIRST of those left, and so on"})
    static void promise35_fromTheFirstToTheEighth() {
        for (int i = 0; i < 8; i++) {
            int place = i;
            tells(7 - i, EIGHT_THINGS, x -> x.order(0, 11, place));
            tells(i, with(x -> manyThings(x, 8)), x -> x.order(0, 0, place));
        }
    }

    @Says("-5 no such place")
    static void promise35_minus5_noSuchPlace() {
        for (int i : new int[] {-1, 8, 9, MIN, MAX}) {
            refuses(-5, EIGHT_THINGS, x -> x.order(0, 11, i));
        }
        tells(4, EIGHT_THINGS, x -> x.order(4, 6, 2));
        refuses(-5, EIGHT_THINGS, x -> x.order(4, 6, 3));
        refuses(-5, EIGHT_THINGS, x -> x.order(8, 11, 0));
        refuses(-5, fresh(), x -> x.order(0, 11, 0));
    }

    @Says("The i-th of ORDER of a WALK. -1")
    static void promise35_minus1_noSuchCell() {
        noSuchCell((x, from, to) -> x.order(from, to, 0));
    }

    @Says("-1; -5 no such place")
    static void promise35_minus1_comesBefore_minus5() {
        refuses(-1, EIGHT_THINGS, x -> x.order(0, 12, 8));
        refuses(-1, EIGHT_THINGS, x -> x.order(-1, 0, -1));
        refuses(-1, fresh(), x -> x.order(12, 12, 0));
    }

    // ---- promise 36: over

    @Says("OVER a road of w steps (1 to 9)")
    static void promise36_minus6_wBelow1OrAbove9() {
        for (int w : new int[] {0, -1, 10, 11, MIN, MAX}) {
            refuses(-6, fresh(), x -> x.over(w, 1, 1, 0));
        }
        tells(8, fresh(), x -> x.over(1, 1, 1, 0));
        tells(1000000000, fresh(), x -> x.over(9, 0, 0, 0));
    }

    @Says("DRIFT l to the left, r to the right (tenths, 10 at most together)")
    static void promise36_minus6_driftBelow0OrAbove10Together() {
        int[][] wrong = {{-1, 0}, {0, -1}, {-1, 1}, {1, -1}, {11, 0}, {0, 11}, {11, -1}, {-1, 11}, {10, 1}, {1, 10},
            {5, 6}, {6, 5}, {MAX, MAX}, {MIN, MIN}, {MAX, 1}, {1, MAX}, {MIN, 0}, {0, MIN}};
        for (int[] d : wrong) {
            refuses(-6, fresh(), x -> x.over(2, d[0], d[1], 0));
        }
        tells(100, fresh(), x -> x.over(2, 0, 0, 0));
        tells(0, fresh(), x -> x.over(2, 10, 0, 0));
        tells(0, fresh(), x -> x.over(2, 0, 10, 0));
        tells(50, fresh(), x -> x.over(2, 5, 5, 0));
    }

    @Says("-6 also k beyond w either way")
    static void promise36_minus6_kBeyondWEitherWay() {
        for (int w = 1; w <= 9; w++) {
            int road = w;
            int all = (int) Math.pow(10, w);
            tells(all, fresh(), x -> x.over(road, 0, 10, road));
            tells(all, fresh(), x -> x.over(road, 10, 0, -road));
            tells(0, fresh(), x -> x.over(road, 0, 10, -road));
            tells(0, fresh(), x -> x.over(road, 10, 0, road));
            tells(1, fresh(), x -> x.over(road, 2, 1, road));
            tells(1 << w, fresh(), x -> x.over(road, 2, 1, -road));
            for (int k : new int[] {w + 1, -w - 1, MIN, MAX}) {
                refuses(-6, fresh(), x -> x.over(road, 2, 1, k));
            }
        }
    }

    @Says("of 10 to the power of w")
    static void promise36_allOddsTogether() {
        for (int w = 1; w <= 9; w++) {
            long all = 0;
            AStreetByACane x = new AStreetByACane();
            for (int k = -w; k <= w; k++) {
                all += x.over(w, 3, 4, k);
            }
            is((long) Math.pow(10, w), all);
        }
    }

    // ---- promise 37: learnt

    @Says({"LEARNT by n goings and FORGOTTEN by m weeks", "LEARNT by n goings (0 to 99)"})
    static void promise37_goingsFrom0To99() {
        tells(0, fresh(), x -> x.learnt(0, 0));
        tells(25, fresh(), x -> x.learnt(1, 0));
        tells(100, fresh(), x -> x.learnt(99, 0));
        for (int n : new int[] {-1, 100, 101, MIN, MAX}) {
            refuses(-6, fresh(), x -> x.learnt(n, 0));
        }
    }

    @Says("if each going leaves three quarters of it, cut each time")
    static void promise37_cutEachTimeDownToNothing() {
        int[] known = {0, 25, 44, 58, 69, 77, 83, 88, 91, 94, 96, 97, 98, 99, 100, 100};
        for (int n = 0; n < known.length; n++) {
            int goings = n;
            tells(known[n], fresh(), x -> x.learnt(goings, 0));
        }
    }

    @Says("FORGOTTEN by m weeks (0 to 99)")
    static void promise37_minus6_goingsOrWeeksBelow0OrAbove99() {
        tells(100, fresh(), x -> x.learnt(14, 0));
        tells(0, fresh(), x -> x.learnt(99, 99));
        for (int m : new int[] {-1, 100, 101, MIN, MAX}) {
            refuses(-6, fresh(), x -> x.learnt(0, m));
            refuses(-6, fresh(), x -> x.learnt(99, m));
            refuses(-6, fresh(), x -> x.learnt(100, m));
        }
    }

    @Says("a tenth less each week, cut up (less at least 1, as long as there is something)")
    static void promise37_lessAtLeast1AsLongAsThereIsSomething() {
        int[] left = {100, 90, 81, 72, 64, 57, 51, 45, 40, 36, 32, 28, 25, 22, 19, 17, 15, 13, 11, 9, 8, 7, 6, 5, 4, 3, 2,
            1, 0, 0};
        for (int m = 0; m < left.length; m++) {
            int weeks = m;
            tells(left[m], fresh(), x -> x.learnt(99, weeks));
        }
        tells(0, fresh(), x -> x.learnt(0, 99));
    }

    // ---- promise 38: goings

    @Says({"GOINGS for p (0 to 100) behind m weeks; NONE", "-16 (counted as -6)"})
    static void promise38_minus16_pBelow0OrAbove100() {
        for (int p : new int[] {-1, 101, 102, MIN, MAX}) {
            refusesAs(-16, -6, fresh(), x -> x.goings(p, 0));
            refusesAs(-16, -6, fresh(), x -> x.goings(p, 99));
        }
        tells(0, fresh(), x -> x.goings(0, 0));
        tells(14, fresh(), x -> x.goings(100, 0));
    }

    @Says({"-16 (counted as -6)", "FORGOTTEN by m weeks (0 to 99)"})
    static void promise38_minus16_weeksBelow0OrAbove99() {
        for (int m : new int[] {-1, 100, 101, MIN, MAX}) {
            refusesAs(-16, -6, fresh(), x -> x.goings(0, m));
            refusesAs(-16, -6, fresh(), x -> x.goings(101, m));
        }
        tells(0, fresh(), x -> x.goings(0, 99));
    }

    @Says("GOINGS: the fewest by which p of 100 are LEARNT still behind m weeks")
    static void promise38_theFewest() {
        int[] known = {0, 25, 44, 58, 69, 77, 83, 88, 91, 94, 96, 97, 98, 99, 100};
        for (int n = 1; n < known.length; n++) {
            int goings = n;
            tells(n, fresh(), x -> x.goings(known[goings], 0));
            tells(n, fresh(), x -> x.goings(known[goings - 1] + 1, 0));
        }
        tells(1, fresh(), x -> x.goings(22, 1));
        tells(2, fresh(), x -> x.goings(23, 1));
    }

    @Says("NONE: not by 99")
    static void promise38_noneNotBy99() {
        tells(14, fresh(), x -> x.goings(90, 1));
        tells(-1, fresh(), x -> x.goings(91, 1));
        tells(-1, fresh(), x -> x.goings(100, 1));
        tells(9, fresh(), x -> x.goings(1, 27));
        tells(-1, fresh(), x -> x.goings(2, 27));
        tells(-1, fresh(), x -> x.goings(1, 28));
        tells(-1, fresh(), x -> x.goings(1, 99));
    }
}
