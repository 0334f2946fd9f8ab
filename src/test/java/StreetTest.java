/** Promises 9 to 17: the street, its signs and its things. */
public final class StreetTest {
    private StreetTest() {
    }

    public static void main(String[] args) {
        street();
        sign();
        thing();
        things();
        wander();
        ask();
        signOf();
        thingOf();
        clear();
        Due.end();
    }

    private static void street() {
        AStreetByACane x = new AStreetByACane();
        x.sign(0, 3, 5, 0);
        x.thing(3, true, 2);
        Due.put(x, 1, 4);
        x.show(0, 0);
        x.begin(5);
        x.step(false);
        x.ask(0, 3);
        x.ask(2, 8);
        x.wander(2, 3);
        Due.due("street(24)", 12, x.street(24));
        int[] then = {24, 0, 0, 0, 0, 3, 0, 8, 0, 1};
        for (int what = 0; what < then.length; what++) {
            Due.due("street: status(" + what + ")", then[what], x.status(what));
        }
        Due.due("street: odds(23)", 1, x.odds(23));
        Due.due("street: odds(NONE)", 24, x.odds(-1));
        Due.due("street: a sign's shelf", -1, x.holds(0));
        Due.due("street: a row's shelf", 102, x.holds(1));
        Due.due("street: right()", -6, x.right());
        Due.due("street: no sign", -1, x.feel(0, true));
        Due.due("street: no thing", -1, x.clear(0));
        Due.due("street: wander as it was", 203, x.wander(1, 1));
        Due.due("street(2)", 24, x.street(2));
        Due.due("street(2) again", 2, x.street(2));
        Due.due("street: odds of 2", 2, x.odds(-1));
        for (int v : new int[] {1, 0, -1, 25, Integer.MAX_VALUE, Integer.MIN_VALUE}) {
            Due.refused("street(" + v + ")", -6, x, () -> x.street(v));
        }
    }

    private static void sign() {
        AStreetByACane x = new AStreetByACane();
        Due.due("sign(0, 0, 1, 0)", 0, x.sign(0, 0, 1, 0));
        Due.due("sign(6, 11, 10, 255)", 1, x.sign(6, 11, 10, 255));
        Due.refused("sign(-1, 0, 0, 0)", -1, x, () -> x.sign(-1, 0, 0, 0));
        Due.refused("sign(7, 0, 1, 0)", -1, x, () -> x.sign(7, 0, 1, 0));
        Due.refused("sign(0, -1, 1, 0)", -1, x, () -> x.sign(0, -1, 1, 0));
        Due.refused("sign(0, 12, 11, 0)", -1, x, () -> x.sign(0, 12, 11, 0));
        Due.refused("sign(0, 0, 0, 0)", -6, x, () -> x.sign(0, 0, 0, 0));
        Due.refused("sign(0, 0, 11, 0)", -6, x, () -> x.sign(0, 0, 11, 0));
        Due.refused("sign(0, 0, 1, -1)", -6, x, () -> x.sign(0, 0, 1, -1));
        Due.refused("sign(0, 0, 1, 256)", -6, x, () -> x.sign(0, 0, 1, 256));
        for (int i = 2; i < 8; i++) {
            Due.due("sign: the number", i, x.sign(1, 1, 1, 1));
        }
        Due.refused("sign: a ninth that may not be", -6, x, () -> x.sign(1, 1, 11, 1));
        Due.refused("sign: a ninth", -7, x, () -> x.sign(1, 1, 1, 1));
        Due.due("sign: how many", 8, x.status(1));
    }

    private static void thing() {
        AStreetByACane x = new AStreetByACane();
        Due.due("thing(0, true, 1)", 0, x.thing(0, true, 1));
        Due.due("thing(11, false, 10)", 1, x.thing(11, false, 10));
        Due.refused("thing(-1, true, 0)", -1, x, () -> x.thing(-1, true, 0));
        Due.refused("thing(12, true, 1)", -1, x, () -> x.thing(12, true, 1));
        Due.refused("thing(0, true, 0)", -6, x, () -> x.thing(0, true, 0));
        Due.refused("thing(0, true, 11)", -6, x, () -> x.thing(0, true, 11));
        for (int i = 2; i < 8; i++) {
            Due.due("thing: the number", i, x.thing(1, true, 1));
        }
        Due.refused("thing: a ninth that may not be", -6, x, () -> x.thing(0, true, 0));
        Due.refused("thing: a ninth", -7, x, () -> x.thing(0, true, 1));
    }

    private static void things() {
        AStreetByACane x = new AStreetByACane();
        Due.put(x, 0, 99, 4, 0, 3, 5, -7, 10, 6, 1, 11, 7, 1, 1);
        Due.due("things until one that can't be", 2, x.things(0, 1, 12));
        Due.due("things: how many", 2, x.status(2));
        long[] first = {x.thingOf(0, 0), x.thingOf(0, 1), x.thingOf(0, 2)};
        Due.due("things: cell", 4, first[0]);
        Due.due("things: not high", 0, first[1]);
        Due.due("things: left", 3, first[2]);
        Due.due("things: high by -7", 1, x.thingOf(1, 1));
        Due.due("things: none", 0, x.things(0, 0, 0));
        Due.due("things: none at the end", 0, x.things(0, 13, 0));
        Due.due("things: the first can't be", 0, x.things(0, 0, 3));
        Due.put(x, 3, 12, 1, 1, -1, 1, 1, 0, 1, 0, 0, 1, 11);
        for (int i = 0; i < 12; i += 3) {
            Due.due("things: it can't be one, at " + i, 0, x.things(3, i, 3));
        }
        Due.due("things: none came", 2, x.status(2));
        x.show(3, -1);
        thingsAsInts(x);
        thingsRefused(x);
        AStreetByACane y = new AStreetByACane();
        Due.put(y, 0, 1, 1, 1, 1, 1, 1, 1, 1, 1);
        Due.due("things: one of three", 1, y.things(0, 3, 3));
        Due.due("things: two of three", 2, y.things(0, 0, 6));
        Due.due("things: three", 3, y.things(0, 0, 9));
        Due.due("things: room for two", 2, y.things(0, 0, 9));
        Due.due("things: no room", 0, y.things(0, 0, 9));
    }

    private static void thingsAsInts(AStreetByACane x) {
        x.row(1, 3, 3);
        x.set(1, 0, (7L << 32) + 2);
        x.set(1, 1, 1L << 32);
        x.set(1, 2, (9L << 40) + 5);
        Due.due("things: of longs the lowest 32 bits", 1, x.things(1, 0, 3));
        Due.due("things of longs: cell", 2, x.thingOf(2, 0));
        Due.due("things of longs: not high", 0, x.thingOf(2, 1));
        Due.due("things of longs: left", 5, x.thingOf(2, 2));
    }

    private static void thingsRefused(AStreetByACane x) {
        x.sign(0, 0, 1, 0);
        x.show(2, 0);
        Due.refused("things(-1, ..)", -1, x, () -> x.things(-1, -1, -1));
        Due.refused("things of a sign", -2, x, () -> x.things(2, -1, -1));
        Due.refused("things of nothing", -3, x, () -> x.things(3, -1, -1));
        Due.refused("things: -1 of them", -4, x, () -> x.things(0, -1, -1));
        Due.refused("things from -1", -5, x, () -> x.things(0, -1, 4));
        Due.refused("things beyond", -5, x, () -> x.things(0, 10, 4));
        Due.refused("things far beyond", -5, x, () -> x.things(0, Integer.MAX_VALUE, 3));
        Due.refused("things: four", -6, x, () -> x.things(0, 0, 4));
    }

    private static void wander() {
        AStreetByACane x = new AStreetByACane();
        Due.due("wander(10, 0)", 101, x.wander(10, 0));
        Due.due("wander(0, 10)", 1000, x.wander(0, 10));
        Due.due("wander(3, 7)", 10, x.wander(3, 7));
        int[][] wrong = {{-1, 0}, {0, -1}, {11, 0}, {0, 11}, {5, 6}, {-1, 11},
            {Integer.MAX_VALUE, 1}, {Integer.MIN_VALUE, Integer.MIN_VALUE}};
        for (int[] w : wrong) {
            Due.refused("wander(" + w[0] + ", " + w[1] + ")", -6, x, () -> x.wander(w[0], w[1]));
        }
        Due.due("wander(0, 0)", 307, x.wander(0, 0));
    }

    private static void ask() {
        AStreetByACane x = new AStreetByACane();
        int[][] asked = {{0, 7, 0}, {0, 0, 7}, {1, 1, 0}, {1, 0, 1}, {2, 9, 5}, {2, 1, 9}};
        for (int[] a : asked) {
            Due.due("ask(" + a[0] + ", " + a[1] + ")", a[2], x.ask(a[0], a[1]));
            Due.due("ask: status", a[1], x.status(5 + a[0]));
        }
        int[][] wrong = {{0, 8}, {0, -1}, {1, 2}, {1, -1}, {2, 0}, {2, 10}, {3, 1}, {-1, 1}};
        for (int[] w : wrong) {
            Due.refused("ask(" + w[0] + ", " + w[1] + ")", -6, x, () -> x.ask(w[0], w[1]));
        }
    }

    private static void signOf() {
        AStreetByACane x = new AStreetByACane();
        x.sign(0, 1, 2, 3);
        x.sign(6, 11, 10, 255);
        int[] of = {6, 11, 10, 255};
        for (int what = 0; what < 4; what++) {
            Due.due("signOf(1, " + what + ")", of[what], x.signOf(1, what));
        }
        Due.refused("signOf(2, 0)", -5, x, () -> x.signOf(2, 0));
        Due.refused("signOf(-1, 0)", -5, x, () -> x.signOf(-1, 0));
        Due.refused("signOf(0, 4)", -5, x, () -> x.signOf(0, 4));
        Due.refused("signOf(0, -1)", -5, x, () -> x.signOf(0, -1));
    }

    private static void thingOf() {
        AStreetByACane x = new AStreetByACane();
        x.thing(1, false, 2);
        x.thing(11, true, 10);
        int[] of = {11, 1, 10};
        for (int what = 0; what < 3; what++) {
            Due.due("thingOf(1, " + what + ")", of[what], x.thingOf(1, what));
        }
        Due.due("thingOf(0, 1)", 0, x.thingOf(0, 1));
        Due.refused("thingOf(2, 0)", -5, x, () -> x.thingOf(2, 0));
        Due.refused("thingOf(-1, 0)", -5, x, () -> x.thingOf(-1, 0));
        Due.refused("thingOf(0, 3)", -5, x, () -> x.thingOf(0, 3));
        Due.refused("thingOf(0, -1)", -5, x, () -> x.thingOf(0, -1));
    }

    private static void clear() {
        AStreetByACane x = new AStreetByACane();
        for (int i = 0; i < 8; i++) {
            x.thing(i, true, 1);
        }
        Due.due("clear(3)", 7, x.clear(3));
        Due.due("clear: those behind move up", 4, x.thingOf(3, 0));
        Due.due("clear: those ahead stay", 2, x.thingOf(2, 0));
        Due.due("clear: the last", 7, x.thingOf(6, 0));
        Due.due("clear(6)", 6, x.clear(6));
        Due.due("clear(0)", 5, x.clear(0));
        Due.due("clear: the first then", 1, x.thingOf(0, 0));
        Due.refused("clear(5)", -1, x, () -> x.clear(5));
        Due.refused("clear(-1)", -1, x, () -> x.clear(-1));
        Due.due("clear: room again", 5, x.thing(0, true, 1));
    }
}
