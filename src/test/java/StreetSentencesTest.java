import java.util.function.Supplier;
import java.util.regex.Matcher;
import java.util.regex.Pattern;

/** Promises 1 to 19, sentence by sentence, edges aside: the shelves, the street, streets read from texts. */
public final class StreetSentencesTest extends Edge {
    private static final int NO = Integer.MIN_VALUE;

    private StreetSentencesTest() {
    }

    public static void main(String[] args) {
        run(StreetSentencesTest.class);
    }

    // ---- promises 1 to 8: the shelves

    @Says({"`AStreetByACane()`: No SIGNS, no THINGS; ODDS are 1 everywhere; he isn't set down in truth.",
        "CELLS 0 to LONG less 1 (LONG 2 to 24; 12 at first).", "(0 to 10 each, no more than 10 together; 1 and 1 at first)",
        "HOUR (0 to 7; 0 at first), SNOW or not (at first not), ARC of the cane (1 to 9; 5 at first)."})
    static void promise01_aNewObject() {
        AStreetByACane x = new AStreetByACane();
        int[] due = {12, 0, 0, 0, 0, 0, 0, 5, 0, 1, -1, 0, 0, 0, 0, 0, 0, 0, -1};
        for (int what = 0; what < due.length; what++) {
            is(due[what], x.status(what));
        }
        odds(x, 1, 1, 1, 1, 1, 1, 1, 1, 1, 1, 1, 1);
        is(101, x.wander(1, 1));
        is(-1, x.fault());
        is(-1, x.trace(0));
        is(-6, x.restore());
        is(-6, x.right());
        is(-1, x.begin(0));
    }

    @Says("An object is used for at most 512 calls after it has been made; what later calls answer is free.")
    static void promise01_allOf512CallsAnswer() {
        AStreetByACane x = new AStreetByACane();
        for (int call = 1; call <= 510; call += 2) {
            is(call == 1 ? 12 : 2 + (call - 2) / 2 % 23, x.street(2 + call / 2 % 23));
            is(1, x.odds(0));
        }
        is(2 + 254 % 23, x.street(2));
        is(2, x.odds(-1));
    }

    @Says({"SHELF s holds a new ROW: 1.", "SHELVES 0 to 7 hold NOTHING (at first), a ROW, or a SIGN.",
        "A ROW has a SORT (0 bytes, 1 shorts, 2 ints, 3 longs) and 0 to 160 elements, 0 at first;",
        "-1; -4; -6 SORT; -7 n above 160."})
    static void promise02_aNewRow() {
        for (int s = 0; s < 8; s++) {
            for (int sort = 0; sort < 4; sort++) {
                AStreetByACane x = new AStreetByACane();
                is(-1, x.holds(s));
                is(1, x.row(s, sort, 3));
                is(100 + sort, x.holds(s));
                for (int i = 0; i < 3; i++) {
                    is(0, x.element(s, i));
                    is(1, x.set(s, i, 5));
                }
                is(-5, x.set(s, 3, 5));
                is(1, x.row(s, 3 - sort, 160));
                is(0, x.element(s, 2));
                is(1, x.set(s, 159, 5));
                is(-5, x.set(s, 160, 5));
            }
        }
    }

    @Says({"Element i of the ROW becomes v: 1.", "what is put in keeps its lowest bits.", "-1; -2; -3; -5."})
    static void promise03_anElementBecomes() {
        long v = 0x123456789abcdef0L;
        long[] due = {(byte) 0xf0, (short) 0xdef0, 0x9abcdef0, v};
        for (int sort = 0; sort < 4; sort++) {
            AStreetByACane x = new AStreetByACane();
            x.row(6, sort, 4);
            is(1, x.set(6, 2, v));
            is(0, x.element(6, 1));
            is(due[sort], x.element(6, 2));
            is(0, x.element(6, 3));
            is(1, x.set(6, 2, -1));
            is(-1, x.element(6, 2));
        }
    }

    @Says({"Elements i, i + 1, .. of the ROW in SHELF p, n of them, come to elements j, j + 1, .. of that in q"
        + " (as they were ahead): 1.", "-5 i or j below 0, or an end that isn't there."})
    static void promise04_elementsCome() {
        AStreetByACane x = new AStreetByACane();
        put(x, 0, 10, 11, 12, 13, 14);
        put(x, 1, 20, 21, 22, 23);
        is(1, x.copy(0, 1, 2, 1, 3));
        rowIs(x, 0, 10, 11, 12, 13, 14);
        rowIs(x, 1, 20, 12, 13, 14);
        is(1, x.copy(0, 0, 0, 1, 4));
        rowIs(x, 0, 10, 10, 11, 12, 13);
        is(1, x.copy(0, 0, 2, 0, 3));
        rowIs(x, 0, 11, 12, 13, 12, 13);
    }

    private static void rowIs(AStreetByACane x, int s, int... due) {
        for (int i = 0; i < due.length; i++) {
            is(due[i], x.element(s, i));
        }
    }

    @Says("Element i of the ROW; 0 if there is none (nothing is refused).")
    static void promise05_anElement() {
        Supplier<AStreetByACane> making = with(x -> {
            put(x, 2, 8, 9);
            putSign(x, 3);
        });
        tells(8, making, x -> x.element(2, 0));
        tells(9, making, x -> x.element(2, 1));
        for (int[] none : new int[][] {{2, 2}, {2, -1}, {3, 0}, {4, 0}, {8, 0}, {-1, 0}}) {
            tells(0, making, x -> x.element(none[0], none[1]));
        }
    }

    @Says({"SHELF s holds a SIGN, or NOTHING (sign NONE): 1, 0.", "-1."})
    static void promise06_aShelfHoldsASign() {
        AStreetByACane x = new AStreetByACane();
        manySigns(x, 3);
        put(x, 4, 1, 2);
        is(1, x.show(4, 2));
        is(2, x.holds(4));
        is(0, x.element(4, 0));
        is(1, x.show(4, 0));
        is(0, x.holds(4));
        is(0, x.show(4, -1));
        is(-1, x.holds(4));
        put(x, 4, 1, 2);
        is(0, x.show(4, -1));
        is(-3, x.set(4, 0, 1));
        is(0, x.show(4, -1));
        is(-1, x.show(4, 3));
        is(-1, x.show(8, 0));
    }

    @Says("What SHELF s holds: NONE NOTHING, or no such SHELF; a SIGN's number; 100 and the SORT of a ROW.")
    static void promise07_whatAShelfHolds() {
        Supplier<AStreetByACane> making = with(x -> {
            manySigns(x, 3);
            x.show(1, 2);
            x.row(2, 0, 0);
            x.row(3, 3, 160);
        });
        int[] due = {-1, 2, 100, 103, -1, -1, -1, -1, -1};
        for (int s = 0; s < due.length; s++) {
            int shelf = s;
            tells(due[s], making, x -> x.holds(shelf));
        }
        tells(-1, making, x -> x.holds(-1));
    }

    /** Taken for each KIND, by rows: a SIGN of each KIND with a 7 and b 85 (bits 0, 2, 4, 6), behind two STEPS. */
    private static final int[][] SAID = {
        {7, NO, NO, NO, NO, NO, NO},
        {7, 7, NO, NO, NO, NO, NO},
        {7, NO, 3, NO, NO, NO, NO},
        {7, NO, 3, 4, NO, NO, NO},
        {7, 7, NO, NO, 7, NO, NO},
        {7, NO, NO, NO, NO, 83, NO},
        {7, 7, NO, NO, NO, NO, 1},
    };

    @Says({"What the SIGN in SHELF s, taken for one of a KIND, says: SIGN its a; FELT, SLOPE its STRENGTH in its CELL now;"
        + " SOUND half of a, cut; SMELT at how many HOURS it is there; COUNT how many STEPS more (0 at least);"
        + " FALSE its other CELL.", "-1 SHELF, KIND; -2 also a SIGN of another KIND; -3.",
        "each of a KIND: 0 SIGN; 1 FELT, 2 SOUND, 5 COUNT, each under SIGN; 4 SLOPE, 6 FALSE, each under FELT;"
        + " 3 SMELT, under SOUND;", "a SIGN that isn't of the KIND wanted, or one under it."})
    static void promise08_whatEachKindSaysTakenForEachKind() {
        for (int kind = 0; kind < 7; kind++) {
            int of = kind;
            Supplier<AStreetByACane> making = with(x -> {
                x.sign(of, 4, 7, 85);
                x.show(5, 0);
                x.step(false);
                x.step(true);
            });
            for (int taken = 0; taken < 7; taken++) {
                int as = taken;
                if (SAID[kind][taken] == NO) {
                    refuses(-2, making, x -> x.says(5, as));
                } else {
                    tells(SAID[kind][taken], making, x -> x.says(5, as));
                }
            }
        }
    }

    @Says("FELT, SLOPE its STRENGTH in its CELL now")
    static void promise08_whatTheySayInSnow() {
        int[][] due = {{1, 1, 0}, {4, 1, 3}, {4, 4, 3}, {6, 1, 0}, {1, 0, 7}, {4, 0, 7}, {6, 6, 1}, {0, 0, 7}};
        for (int[] said : due) {
            tells(said[2], with(x -> {
                x.ask(1, 1);
                x.sign(said[0], 4, 7, 85);
                x.show(5, 0);
            }), x -> x.says(5, said[1]));
        }
    }

    // ---- promises 9 to 17: the street

    @Says({"LONG becomes v, as the ITEM has it (he knows nothing then, and isn't set down): what it was.", "-6.",
        "long N (no SIGNS, no THINGS then; he isn't set down in truth);"})
    static void promise09_longBecomes() {
        AStreetByACane x = new AStreetByACane();
        manySigns(x, 2);
        manyThings(x, 2);
        x.begin(3);
        x.show(7, 1);
        x.wander(2, 3);
        x.step(false);
        x.feel(0, true);
        is(12, x.street(3));
        int[] due = {3, 0, 0, 0, 0};
        for (int what = 0; what < due.length; what++) {
            is(due[what], x.status(what));
        }
        odds(x, 1, 1, 1);
        is(-1, x.holds(7));
        is(-6, x.right());
        is(-1, x.begin(0));
        is(203, x.wander(1, 1));
        is(-1, x.odds(3));
        is(3, x.street(3));
        is(-6, x.right());
        is(3, x.street(24));
        is(1, x.odds(23));
        is(24, x.odds(-1));
    }

    @Says({"A SIGN: the number.", "-1 KIND, CELL; -6; -7.",
        "SIGNS have numbers, from 0 on, 8 at most,", "a CELL, a (1 to 10 tenths), b (0 to 255)."})
    static void promise10_signsFrom0On() {
        AStreetByACane x = new AStreetByACane();
        for (int i = 0; i < 8; i++) {
            is(i, x.sign(i % 7, i, i + 1, 30 * i));
            is(i + 1, x.status(1));
        }
        is(-7, x.sign(0, 0, 1, 0));
        for (int i = 0; i < 8; i++) {
            is(i % 7, x.signOf(i, 0));
            is(i, x.signOf(i, 1));
            is(i + 1, x.signOf(i, 2));
            is(30 * i, x.signOf(i, 3));
        }
        is(12, x.street(12));
        is(0, x.sign(0, 0, 1, 0));
    }

    @Says({"A THING: its number.", "-1 CELL; -6 LEFT; -7.", "THINGS have numbers, from 0 on, 8 at most: a CELL, HIGH or not,"
        + " LEFT: tenths of all days on which it stands there (1 to 10)."})
    static void promise11_thingsFrom0On() {
        AStreetByACane x = new AStreetByACane();
        for (int i = 0; i < 8; i++) {
            is(i, x.thing(i + 1, i % 3 == 0, 10 - i));
            is(i + 1, x.status(2));
        }
        is(-7, x.thing(0, true, 1));
        for (int i = 0; i < 8; i++) {
            is(i + 1, x.thingOf(i, 0));
            is(i % 3 == 0 ? 1 : 0, x.thingOf(i, 1));
            is(10 - i, x.thingOf(i, 2));
        }
    }

    @Says({"THINGS by n elements of the ROW in SHELF s from i on, three each (HIGH: not 0), until one that can't be one,"
        + " or that there is no room for: how many came.", "-1; -2; -3; -4 n; -5; -6 n is no multiple of three."})
    static void promise12_thingsByElements() {
        AStreetByACane x = new AStreetByACane();
        put(x, 0, 99, 1, 0, 10, 11, -7, 1, 2, 1, 9, 12, 0, 4, 3, 1, 5);
        is(1, x.things(0, 1, 3));
        // The CELL 12 can't be one, and the THING behind it doesn't come any more.
        is(2, x.things(0, 4, 12));
        is(0, x.things(0, 10, 3));
        is(-6, x.things(0, 10, 4));
        int[] due = {1, 0, 10, 11, 1, 1, 2, 1, 9};
        for (int i = 0; i < 9; i++) {
            is(due[i], x.thingOf(i / 3, i % 3));
        }
        is(3, x.things(0, 1, 9));
        is(0, x.things(0, 3, 0));
        is(2, x.things(0, 1, 9));
        is(8, x.status(2));
        is(0, x.things(0, 1, 9));
    }

    @Says({"STAYS and TWOS become s and t: 100 times STAYS and TWOS as they were.", "-6."})
    static void promise13_wanderBecomes() {
        AStreetByACane x = new AStreetByACane();
        is(101, x.wander(10, 0));
        is(1000, x.wander(0, 10));
        is(10, x.wander(3, 7));
        is(-6, x.wander(4, 7));
        is(307, x.wander(0, 0));
        is(0, x.wander(2, 5));
        is(205, x.wander(1, 1));
    }

    @Says({"HOUR (what 0), SNOW (1; 0 or 1), ARC (2) becomes v: what it was.", "-6."})
    static void promise14_askedOfEach() {
        AStreetByACane x = new AStreetByACane();
        is(0, x.ask(0, 7));
        is(0, x.ask(1, 1));
        is(5, x.ask(2, 9));
        is(7, x.status(5));
        is(1, x.status(6));
        is(9, x.status(7));
        is(7, x.ask(0, 3));
        is(1, x.ask(1, 0));
        is(9, x.ask(2, 1));
        is(3, x.status(5));
        is(0, x.status(6));
        is(1, x.status(7));
    }

    @Says({"Of a SIGN: 0 KIND, 1 CELL, 2 a, 3 b.", "-5: no such one, another what."})
    static void promise15_ofASign() {
        Supplier<AStreetByACane> making = with(x -> {
            x.sign(0, 0, 1, 0);
            x.sign(6, 11, 9, 200);
        });
        int[] due = {6, 11, 9, 200};
        for (int what = 0; what < 4; what++) {
            int of = what;
            tells(due[what], making, x -> x.signOf(1, of));
            refuses(-5, making, x -> x.signOf(2, of));
        }
        refuses(-5, making, x -> x.signOf(1, 4));
    }

    @Says({"Of a THING: 0 CELL, 1 1 if HIGH, 2 LEFT.", "-5: no such one, another what."})
    static void promise16_ofAThing() {
        Supplier<AStreetByACane> making = with(x -> {
            x.thing(11, true, 9);
            x.thing(10, false, 8);
        });
        int[] due = {11, 1, 9, 10, 0, 8};
        for (int i = 0; i < due.length; i++) {
            int at = i;
            tells(due[i], making, x -> x.thingOf(at / 3, at % 3));
        }
        refuses(-5, making, x -> x.thingOf(2, 0));
        refuses(-5, making, x -> x.thingOf(1, 3));
    }

    @Says({"A THING goes: how many are left (those behind it move up).", "-1."})
    static void promise17_aThingGoes() {
        AStreetByACane x = new AStreetByACane();
        for (int i = 0; i < 5; i++) {
            x.thing(i, i % 2 == 0, i + 1);
        }
        is(4, x.clear(1));
        is(3, x.clear(3));
        is(2, x.clear(0));
        is(-1, x.clear(2));
        int[] due = {2, 1, 3, 3, 0, 4};
        for (int i = 0; i < due.length; i++) {
            is(due[i], x.thingOf(i / 3, i % 3));
        }
        is(2, x.thing(7, true, 1));
        is(2, x.clear(0));
        is(1, x.clear(0));
        is(7, x.thingOf(0, 0));
        is(0, x.clear(0));
    }

    // ---- promises 18 and 19: streets read from texts

    @Says({"A STREET by the ROW in SHELF s: how many ITEMS.", "-1; -2; -3; -6 a FAULT.",
        "A STREET is read from a ROW of letters: ITEM, then any number of times ; and ITEM: long N (no SIGNS, no THINGS then;"
        + " he isn't set down in truth); sign K C A B; thing C H L (H 0 or 1); wander S T; arc N; hour N.",
        "He knows nothing then (as lost() has it)."})
    static void promise18_eachItem() {
        AStreetByACane x = new AStreetByACane();
        manySigns(x, 3);
        manyThings(x, 3);
        x.begin(1);
        x.step(false);
        put(x, 0, "long 20;sign 5 19 3 77;thing 18 1 4;sign 2 0 10 0;wander 3 4;arc 8;hour 6;thing 0 0 1");
        is(8, x.town(0));
        int[] due = {20, 2, 2, 0, 0, 6, 0, 8};
        for (int what = 0; what < due.length; what++) {
            is(due[what], x.status(what));
        }
        int[] signs = {5, 19, 3, 77, 2, 0, 10, 0};
        for (int i = 0; i < signs.length; i++) {
            is(signs[i], x.signOf(i / 4, i % 4));
        }
        int[] things = {18, 1, 4, 0, 0, 1};
        for (int i = 0; i < things.length; i++) {
            is(things[i], x.thingOf(i / 3, i % 3));
        }
        is(304, x.wander(1, 1));
        is(20, x.odds(-1));
        is(1, x.odds(19));
        is(-1, x.begin(0));
    }

    @Says("All is told over what there is, or nothing (what there is no room for can't stand: its word;"
        + " of wander that may not be: T).")
    static void promise18_overWhatThereIsOrNothing() {
        AStreetByACane x = new AStreetByACane();
        manySigns(x, 7);
        x.begin(1);
        x.step(false);
        x.thing(3, true, 3);
        put(x, 0, "hour 3;sign 4 11 2 9");
        is(2, x.town(0));
        int[] due = {12, 8, 1, 0, 0, 3, 0, 5};
        for (int what = 0; what < due.length; what++) {
            is(due[what], x.status(what));
        }
        is(4, x.signOf(7, 0));
        is(1, x.begin(2));
        x.step(false);
        put(x, 0, "hour 4;sign 0 0 1 0");
        is(-6, x.town(0));
        is(7, x.fault());
        is(3, x.status(5));
        is(1, x.status(3));
        put(x, 0, "hour 4;wander 4 7");
        is(-6, x.town(0));
        is(16, x.fault());
        is(3, x.status(5));
        is(101, x.wander(1, 1));
    }

    // A second telling of the FAULT: by the longest beginning that can be one of a text, as a pattern has it.

    private static final String N = " [0-9]{1,3}";
    private static final String ITEM = "(?:long" + N + "|sign" + N + N + N + N + "|thing" + N + N + N + "|wander" + N + N
        + "|arc" + N + "|hour" + N + ")";
    private static final Pattern TEXT = Pattern.compile(ITEM + "(?:;" + ITEM + ")*");

    /** The FAULT of a text that is told over 12 CELLS, so many SIGNS and so many THINGS; -1: none. */
    private static int faultOf(String text, int signs, int things) {
        int stands = 0;
        while (stands < text.length() && canBegin(text.substring(0, stands + 1))) {
            stands++;
        }
        int[] there = {12, signs, things};
        int begins = 0;
        for (String item : text.substring(0, stands).split(";", -1)) {
            int bad = badPlaceIn(item.split(" ", -1), there);
            if (bad != -1) {
                return begins + bad;
            }
            begins += item.length() + 1;
        }
        return TEXT.matcher(text).matches() ? -1 : stands;
    }

    private static boolean canBegin(String part) {
        Matcher matcher = TEXT.matcher(part);
        return matcher.matches() || matcher.hitEnd();
    }

    /** Where in an item that stands so far there is what may not be. */
    private static int badPlaceIn(String[] words, int[] there) {
        String word = words[0];
        boolean full = word.equals("sign") && there[1] == 8 || word.equals("thing") && there[2] == 8;
        if (full) {
            return 0;
        }
        int[][] bounds = boundsOf(word, there[0], words);
        int place = word.length() + 1;
        for (int i = 1; i < words.length && !words[i].isEmpty(); i++) {
            int number = Integer.parseInt(words[i]);
            if (number < bounds[i - 1][0] || number > bounds[i - 1][1]) {
                return place;
            }
            place += words[i].length() + 1;
        }
        there[0] = word.equals("long") && words.length > 1 && !words[1].isEmpty() ? Integer.parseInt(words[1]) : there[0];
        there[1] = word.equals("long") ? 0 : there[1] + (word.equals("sign") ? 1 : 0);
        there[2] = word.equals("long") ? 0 : there[2] + (word.equals("thing") ? 1 : 0);
        return -1;
    }

    private static int[][] boundsOf(String word, int cells, String[] words) {
        switch (word) {
            case "long":
                return new int[][] {{2, 24}};
            case "sign":
                return new int[][] {{0, 6}, {0, cells - 1}, {1, 10}, {0, 255}};
            case "thing":
                return new int[][] {{0, cells - 1}, {0, 1}, {1, 10}};
            case "wander":
                boolean hasT = words.length > 2 && !words[1].isEmpty();
                return new int[][] {{0, 10}, {0, hasT ? 10 - Integer.parseInt(words[1]) : 10}};
            case "arc":
                return new int[][] {{1, 9}};
            default:
                return new int[][] {{0, 7}};
        }
    }

    @Says({"The FAULT: the first place at which an element can't stand as such texts go on (the number of elements,"
        + " if it ends too early); of a NUMBER that may not be the place of its first digit.",
        "One blank between words and NUMBERS (1 to 3 digits).",
        "Whether there is room for a word is asked when its letters stand whole: until then the first element that is not"
        + " as it is the FAULT, or the number of elements."})
    static void promise18_theFaultOfTextsChangedInOnePlace() {
        String[] texts = {"long 9;sign 6 8 10 255;thing 8 1 10", "wander 4 6;arc 9;hour 7;long 24;arc 1",
            "sign 0 11 1 0;sign 3 0 5 99;thing 11 0 1", "thing 0 0 1;wander 0 10;wander 10 0;hour 0", "arc 010;hour 007;long 02"};
        for (String text : texts) {
            for (int i = 0; i <= text.length(); i++) {
                asksFaultOf(text.substring(0, i));
                if (i < text.length()) {
                    asksFaultOf(text.substring(0, i) + text.substring(i + 1));
                }
                for (char put : " ;0123459agilnostwr".toCharArray()) {
                    asksFaultOf(text.substring(0, i) + put + text.substring(i));
                    if (i < text.length()) {
                        asksFaultOf(text.substring(0, i) + put + text.substring(i + 1));
                    }
                }
            }
        }
    }

    private static void asksFaultOf(String text) {
        for (int room = 0; room <= 2; room++) {
            AStreetByACane x = new AStreetByACane();
            manySigns(x, 8 - room);
            manyThings(x, 7 + room % 2);
            put(x, 3, text);
            int fault = faultOf(text, 8 - room, 7 + room % 2);
            is(fault == -1 ? text.split(";").length : -6, x.town(3));
            is(fault, x.fault());
        }
    }

    @Says("The FAULT of the latest town() that came to a ROW; NONE: there was none, or none yet.")
    static void promise19_theFaultOfTheLatest() {
        AStreetByACane x = new AStreetByACane();
        is(-1, x.fault());
        put(x, 0, "hour 9");
        put(x, 1, "hour 2;");
        put(x, 2, "hour 2");
        is(-6, x.town(0));
        is(5, x.fault());
        is(-6, x.town(1));
        is(7, x.fault());
        is(-3, x.town(3));
        is(-1, x.town(8));
        is(7, x.fault());
        is(1, x.town(2));
        is(-1, x.fault());
    }
}
