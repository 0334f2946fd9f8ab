import java.util.function.Supplier;

/** Edges of promises 18 and 19: streets read from texts, and their faults. */
public final class TownEdgesTest extends Edge {
    private TownEdgesTest() {
    }

    public static void main(String[] args) {
        run(TownEdgesTest.class);
    }

    /** A street where there is something of everything, so that it is seen if a refused text tells any of it. */
    private static final Supplier<AStreetByACane> LIVELY = with(x -> {
        x.street(10);
        x.wander(2, 3);
        x.ask(0, 6);
        x.ask(1, 1);
        x.ask(2, 8);
        manySigns(x, 3);
        manyThings(x, 2);
        x.show(6, 0);
        x.show(7, 2);
        x.lost(3);
        x.step(false);
        x.begin(9);
        x.seed(9);
    });

    private static final Supplier<AStreetByACane> FULL = with(x -> {
        manySigns(x, 8);
        manyThings(x, 8);
    });

    private static AStreetByACane read(Supplier<AStreetByACane> making, int items, String text) {
        Supplier<AStreetByACane> withText = () -> {
            AStreetByACane x = making.get();
            put(x, 0, text);
            return x;
        };
        does(items, withText, x -> x.town(0));
        AStreetByACane x = withText.get();
        x.town(0);
        is(-1, x.fault());
        return x;
    }

    private static AStreetByACane read(int items, String text) {
        return read(fresh(), items, text);
    }

    /** A FAULT: the place, one refusal more, and all else as if it had never been read. */
    private static void faults(Supplier<AStreetByACane> making, int place, String text) {
        Supplier<AStreetByACane> left = () -> {
            AStreetByACane x = making.get();
            put(x, 0, text);
            return x;
        };
        AStreetByACane x = left.get();
        int before = x.status(16);
        is(-6, x.town(0));
        is(place, x.fault());
        is(before + 1, x.status(16));
        isSo(butTheFault(left).equals(butTheFault(behind(left, y -> y.town(0)))));
    }

    private static String butTheFault(Supplier<AStreetByACane> making) {
        return everythingOf(making).replaceAll("fault=-?\\d+", "");
    }

    private static void faults(int place, String text) {
        faults(fresh(), place, text);
        faults(LIVELY, place, text);
    }

    // ---- promise 18: town

    @Says({"how many ITEMS", "ITEM, then any number of times ; and ITEM"})
    static void promise18_fromOneItemTo160LettersOfThem() {
        read(1, "arc 1");
        read(2, "arc 1;arc 2");
        StringBuilder text = new StringBuilder("arc 9");
        for (int i = 1; i < 26; i++) {
            text.append(i > 20 ? ";hour 3" : ";arc 4");
        }
        is(160, text.length());
        AStreetByACane x = read(26, text.toString());
        is(4, x.status(7));
        is(3, x.status(5));
    }

    @Says("ITEM, then any number of times ; and ITEM")
    static void promise18_theLastOfSeveralItemsHolds() {
        AStreetByACane x = read(4, "arc 1;arc 9;hour 7;hour 0");
        is(9, x.status(7));
        is(0, x.status(5));
    }

    @Says({"long N", "LONG 2 to 24"})
    static void promise18_longFrom2To24() {
        is(2, read(1, "long 2").status(0));
        is(24, read(1, "long 24").status(0));
        faults(5, "long 1");
        faults(5, "long 25");
        faults(5, "long 0");
        faults(5, "long 999");
    }

    @Says("long N (no SIGNS, no THINGS then; he isn't set down in truth)")
    static void promise18_longToldAnew() {
        for (String text : new String[] {"long 2", "long 10", "long 24", "sign 0 0 1 0;thing 0 0 1;long 10"}) {
            AStreetByACane x = read(LIVELY, text.startsWith("long") ? 1 : 3, text);
            is(0, x.status(1));
            is(0, x.status(2));
            is(-6, x.right());
            is(-1, x.begin(0));
        }
    }

    @Says("long N (no SIGNS, no THINGS then; he isn't set down in truth)")
    static void promise18_longThenSignsAndThings() {
        AStreetByACane x = read(LIVELY, 3, "long 2;sign 6 1 10 255;thing 1 1 10");
        is(1, x.status(1));
        is(6, x.signOf(0, 0));
        is(1, x.status(2));
        is(1, x.thingOf(0, 0));
    }

    @Says("All is told over what there is")
    static void promise18_withoutLongAllElseStays() {
        AStreetByACane x = read(LIVELY, 2, "sign 6 9 10 255;thing 9 1 10");
        is(4, x.status(1));
        is(3, x.status(2));
        is(9, x.signOf(3, 1));
        is(9, x.thingOf(2, 0));
        is(0, x.holds(6));
        is(2, x.holds(7));
        is(6, x.status(5));
        is(1, x.status(6));
        is(8, x.status(7));
        is(9, x.status(9));
        is(203, x.wander(1, 1));
        is(9, x.begin(0));
    }

    @Says("LONG told anew (street(), long N): SHELVES with SIGNS hold NOTHING then.")
    static void promise18_shelvesWithSignsHoldNothingThen() {
        for (String text : new String[] {"long 10", "long 10;sign 0 0 1 0;sign 0 0 1 0;sign 0 0 1 0"}) {
            AStreetByACane x = read(LIVELY, text.length() > 7 ? 4 : 1, text);
            is(-1, x.holds(6));
            is(-1, x.holds(7));
            is(100, x.holds(0));
            is('l', x.element(0, 0));
        }
    }

    @Says({"sign K C A B", "each of a KIND"})
    static void promise18_signOfTheFirstAndTheLastKind() {
        is(0, read(1, "sign 0 0 1 0").signOf(0, 0));
        is(6, read(1, "sign 6 0 1 0").signOf(0, 0));
        faults(5, "sign 7 0 1 0");
        faults(5, "sign 10 0 1 0");
    }

    @Says({"sign K C A B", "CELLS 0 to LONG less 1"})
    static void promise18_signInTheFirstAndTheLastCell() {
        is(0, read(1, "sign 0 0 1 0").signOf(0, 1));
        is(11, read(1, "sign 0 11 1 0").signOf(0, 1));
        is(23, read(2, "long 24;sign 0 23 1 0").signOf(0, 1));
        is(1, read(2, "long 2;sign 0 1 1 0").signOf(0, 1));
        faults(fresh(), 7, "sign 0 12 1 0");
        faults(LIVELY, 7, "sign 0 10 1 0");
        faults(15, "long 24;sign 0 24 1 0");
        faults(14, "long 2;sign 0 2 1 0");
    }

    @Says({"sign K C A B", "a (1 to 10 tenths)"})
    static void promise18_signWithAFrom1To10() {
        is(1, read(1, "sign 0 0 1 0").signOf(0, 2));
        is(10, read(1, "sign 0 0 10 0").signOf(0, 2));
        faults(9, "sign 0 0 0 0");
        faults(9, "sign 0 0 11 0");
    }

    @Says({"sign K C A B", "b (0 to 255)"})
    static void promise18_signWithBFrom0To255() {
        is(0, read(1, "sign 0 0 1 0").signOf(0, 3));
        is(255, read(1, "sign 0 0 1 255").signOf(0, 3));
        faults(11, "sign 0 0 1 256");
        faults(11, "sign 0 0 1 999");
    }

    @Says({"thing C H L", "CELLS 0 to LONG less 1"})
    static void promise18_thingInTheFirstAndTheLastCell() {
        is(0, read(1, "thing 0 0 1").thingOf(0, 0));
        is(11, read(1, "thing 11 0 1").thingOf(0, 0));
        is(23, read(2, "long 24;thing 23 0 1").thingOf(0, 0));
        faults(fresh(), 6, "thing 12 0 1");
        faults(LIVELY, 6, "thing 10 0 1");
        faults(13, "long 2;thing 2 0 1");
    }

    @Says("(H 0 or 1)")
    static void promise18_thingHigh0Or1() {
        is(0, read(1, "thing 0 0 1").thingOf(0, 1));
        is(1, read(1, "thing 0 1 1").thingOf(0, 1));
        faults(8, "thing 0 2 1");
        faults(8, "thing 0 10 1");
    }

    @Says({"thing C H L", "LEFT: tenths of all days on which it stands there (1 to 10)"})
    static void promise18_thingWithLeftFrom1To10() {
        is(1, read(1, "thing 0 0 1").thingOf(0, 2));
        is(10, read(1, "thing 0 0 10").thingOf(0, 2));
        faults(10, "thing 0 0 0");
        faults(10, "thing 0 0 11");
    }

    @Says({"wander S T", "0 to 10 each"})
    static void promise18_wanderFrom0To10Each() {
        is(0, read(1, "wander 0 0").wander(1, 1));
        is(1000, read(1, "wander 10 0").wander(1, 1));
        is(10, read(1, "wander 0 10").wander(1, 1));
        faults(7, "wander 11 0");
        faults(7, "wander 99 99");
        faults(9, "wander 0 11");
    }

    @Says({"of wander that may not be: T", "no more than 10 together"})
    static void promise18_wanderOfMoreThan10Together() {
        is(505, read(1, "wander 5 5").wander(1, 1));
        is(109, read(1, "wander 1 9").wander(1, 1));
        faults(9, "wander 5 6");
        faults(9, "wander 1 10");
        faults(10, "wander 10 1");
        faults(11, "wander 010 1");
    }

    @Says({"arc N", "ARC of the cane (1 to 9"})
    static void promise18_arcFrom1To9() {
        is(1, read(1, "arc 1").status(7));
        is(9, read(1, "arc 9").status(7));
        faults(4, "arc 0");
        faults(4, "arc 10");
    }

    @Says({"hour N", "HOUR (0 to 7"})
    static void promise18_hourFrom0To7() {
        is(0, read(LIVELY, 1, "hour 0").status(5));
        is(7, read(LIVELY, 1, "hour 7").status(5));
        faults(5, "hour 8");
        faults(5, "hour 100");
    }

    @Says("NUMBERS (1 to 3 digits)")
    static void promise18_numbersOf1To3Digits() {
        is(8, read(1, "long 8").status(0));
        is(8, read(1, "long 08").status(0));
        is(8, read(1, "long 008").status(0));
        is(0, read(1, "hour 000").status(5));
        faults(5, "long ");
        faults(8, "long 0080");
        faults(8, "hour 0000");
        faults(14, "sign 0 0 1 2550");
    }

    @Says("One blank between words and NUMBERS")
    static void promise18_oneBlank() {
        faults(4, "long8");
        faults(5, "long  8");
        faults(0, " long 8");
        faults(6, "long 8 ");
        faults(6, "long 8 ;arc 1");
        faults(7, "long 8; arc 1");
        faults(6, "sign 0,0 1 0");
        faults(7, "sign 0  0 1 0");
        faults(4, "long\t8");
    }

    @Says("the first place at which an element can't stand as such texts go on")
    static void promise18_noLetterMoreNorLess() {
        faults(0, ";arc 1");
        faults(5, "arc 1?;arc 1");
        faults(6, "arc 1;;arc 1");
        faults(0, "Arc 1");
        faults(2, "ar 1");
        faults(3, "arcs 1");
        faults(6, "arc 1; 2");
        faults(5, "arc 1 2");
        faults(12, "sign 0 0 1 0 5");
        faults(11, "thing 0 0 1 5");
        faults(10, "wander 1 1 5");
        faults(6, "arc 1;now 1");
        faults(7, "arc 1;snow 1");
    }

    @Says("(the number of elements, if it ends too early)")
    static void promise18_itEndsTooEarly() {
        faults(0, "");
        faults(6, "arc 1;");
        for (String text : new String[] {"long 2", "sign 0 0 1 0", "thing 0 0 1", "wander 0 0", "arc 1", "hour 0"}) {
            for (int end = 0; end < text.length(); end++) {
                faults(end, text.substring(0, end));
            }
            read(1, text);
        }
    }

    @Says("of a NUMBER that may not be the place of its first digit")
    static void promise18_aNumberThatMayNotBe() {
        faults(5, "long 025");
        faults(5, "long 1;arc 1");
        faults(5, "long 25x");
        faults(9, "sign 0 0 011 0");
        faults(9, "sign 0 0 11");
        faults(11, "hour 7;arc 99");
    }

    @Says("All is told over what there is, or nothing")
    static void promise18_nothingIfTheLastItemHasAFault() {
        String all = "long 9;sign 0 8 1 0;thing 8 1 1;wander 5 5;arc 1;hour 0;";
        faults(all.length() + 4, all + "arc 0");
        faults(all.length(), all);
    }

    @Says("He knows nothing then (as lost() has it)")
    static void promise18_heKnowsNothingThen() {
        AStreetByACane x = read(LIVELY, 1, "arc 8");
        odds(x, 1, 1, 1, 1, 1, 1, 1, 1, 1, 1);
        is(0, x.status(3));
        is(0, x.status(4));
        odds(read(LIVELY, 1, "long 3"), 1, 1, 1);
    }

    @Says("what there is no room for can't stand: its word")
    static void promise18_roomForEightSigns() {
        read(with(x -> manySigns(x, 7)), 1, "sign 0 0 1 0");
        faults(FULL, 0, "sign 0 0 1 0");
        faults(with(x -> manySigns(x, 7)), 19, "arc 1;sign 0 0 1 0;sign 0 0 1 0");
        faults(with(x -> manySigns(x, 7)), 13, "sign 0 0 1 0;sign 0 0 1 0;arc 1");
        read(FULL, 2, "long 2;sign 0 0 1 0");
    }

    @Says("what there is no room for can't stand: its word")
    static void promise18_roomForEightThings() {
        read(with(x -> manyThings(x, 7)), 1, "thing 0 0 1");
        faults(FULL, 0, "thing 0 0 1");
        faults(with(x -> manyThings(x, 7)), 18, "arc 1;thing 0 0 1;thing 0 0 1");
        faults(with(x -> manyThings(x, 7)), 12, "thing 0 0 1;thing 0 0 1;arc 1");
        read(FULL, 2, "long 2;thing 0 0 1");
    }

    @Says("Whether there is room for a word is asked when its letters stand whole")
    static void promise18_roomIsAskedWhenTheLettersStandWhole() {
        faults(FULL, 0, "sign");
        faults(FULL, 0, "thing");
        faults(FULL, 0, "sign?");
        faults(FULL, 0, "thing?");
        faults(FULL, 0, "sign 9 99 99 999");
        faults(FULL, 6, "arc 1;thing 99");
    }

    @Says("until then the first element that is not as it is the FAULT, or the number of elements")
    static void promise18_untilThenTheFirstElementThatIsNotAsItIs() {
        faults(FULL, 3, "sig");
        faults(FULL, 4, "thin");
        faults(FULL, 1, "s");
        faults(FULL, 3, "sigh 0 0 1 0");
        faults(FULL, 4, "think");
        faults(FULL, 9, "arc 1;sig");
        faults(FULL, 8, "arc 1;siGn");
    }

    @Says("(As ints: of longs the lowest 32 bits.)")
    static void promise18_lettersAsInts() {
        for (int sort = 0; sort < 4; sort++) {
            AStreetByACane x = new AStreetByACane();
            x.row(0, sort, 5);
            for (int i = 0; i < 5; i++) {
                x.set(0, i, (sort == 3 ? 7L << 32 : 0) + "arc 7".charAt(i));
            }
            is(1, x.town(0));
            is(7, x.status(7));
            x.set(0, 4, '7' + 256);
            is(sort == 0 ? 1 : -6, x.town(0));
            is(sort == 0 ? -1 : 4, x.fault());
            x.set(0, 4, -1);
            is(-6, x.town(0));
            is(4, x.fault());
        }
    }

    @Says({"how many ITEMS. -1", "-1 NOBODY: no such SHELF"})
    static void promise18_minus1_noSuchShelf() {
        for (int s : new int[] {-1, 8, MIN, MAX}) {
            refuses(-1, LIVELY, x -> x.town(s));
        }
    }

    @Says("-2 OTHER: a SHELF that holds a SIGN where a ROW is wanted")
    static void promise18_minus2_aShelfWithASign() {
        refuses(-2, LIVELY, x -> x.town(6));
    }

    @Says("-3 NOTHING: a SHELF that holds NOTHING")
    static void promise18_minus3_aShelfWithNothing() {
        refuses(-3, LIVELY, x -> x.town(5));
    }

    @Says("-6 a FAULT")
    static void promise18_minus6_aFault() {
        refuses(-6, with(x -> {
            put(x, 0, "long 25");
            x.town(0);
        }), x -> x.town(0));
        faults(0, "");
        faults(5, "long 1");
        read(1, "long 2");
    }

    @Says("A STREET by the ROW in SHELF s")
    static void promise18_theFirstAndTheLastShelf() {
        for (int s = 0; s < 8; s += 7) {
            int shelf = s;
            does(1, with(x -> put(x, shelf, "arc 3")), x -> x.town(shelf));
        }
    }

    // ---- promise 19: fault

    @Says("NONE: there was none, or none yet")
    static void promise19_noneYet() {
        tells(-1, fresh(), x -> x.fault());
        tells(-1, LIVELY, x -> x.fault());
    }

    @Says("NONE: there was none")
    static void promise19_noneBehindATextThatStands() {
        AStreetByACane x = new AStreetByACane();
        put(x, 0, "arc 0");
        put(x, 1, "arc 1");
        x.town(0);
        is(4, x.fault());
        x.town(1);
        is(-1, x.fault());
        x.town(0);
        is(4, x.fault());
    }

    @Says("The FAULT of the latest town() that came to a ROW")
    static void promise19_theLatestThatCameToARow() {
        AStreetByACane x = LIVELY.get();
        put(x, 0, "arc 0");
        put(x, 1, "");
        x.town(0);
        x.town(1);
        is(0, x.fault());
        x.town(0);
        for (int s : new int[] {-1, 8, 6, 5}) {
            isSo(x.town(s) < 0);
            is(4, x.fault());
        }
    }

    @Says("The FAULT of the latest town()")
    static void promise19_fromPlace0To160() {
        faults(0, "x");
        StringBuilder text = new StringBuilder("arc 9");
        for (int i = 1; i < 26; i++) {
            text.append(i > 21 ? ";hour 3" : ";arc 4");
        }
        is(159, text.length());
        read(26, text.toString());
        faults(159, text + "x");
        faults(160, text + ";");
    }

    @Says("The FAULT of the latest town() that came to a ROW")
    static void promise19_otherCallsLeaveIt() {
        AStreetByACane x = new AStreetByACane();
        x.image();
        put(x, 0, "arc 0");
        x.town(0);
        x.restore();
        is(4, x.fault());
        x.street(2);
        is(4, x.fault());
        x.row(0, 0, 1);
        is(4, x.fault());
    }
}
