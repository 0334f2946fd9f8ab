/** Promises 44 to 48: acts, their trace, the image, and how many. */
public final class ActsTest {
    private ActsTest() {
    }

    public static void main(String[] args) {
        actsAndTraces();
        actsWrap();
        actsOfNobody();
        image();
        restoreShelves();
        restoreRefused();
        status();
        Due.end();
    }

    private static void actsAre(AStreetByACane x, int sign, int act, int given, int due, int... bodies) {
        String call = "act(" + sign + ", " + act + ", " + given + ")";
        Due.due(call, due, x.act(sign, act, given));
        Due.due(call + ": bodies", bodies.length, x.status(8));
        for (int i = 0; i < bodies.length; i++) {
            Due.due(call + ": trace(" + i + ")", bodies[i], x.trace(i));
        }
        Due.due(call + ": trace behind", -1, x.trace(bodies.length));
        Due.due(call + ": trace(-1)", -1, x.trace(-1));
        Due.due(call + ": trace(20)", -1, x.trace(20));
    }

    /** Sign m is of kind m, its b is 10 * m + 3: each act by hand. */
    private static void actsAndTraces() {
        AStreetByACane x = new AStreetByACane();
        for (int kind = 0; kind < 7; kind++) {
            x.sign(kind, 0, 1, 10 * kind + 3);
        }
        actsAre(x, 0, 0, 5, 5, 10);
        actsAre(x, 0, 1, 5, 10, 11, 10);
        actsAre(x, 0, 2, 5, 10 ^ 2, 12, 11, 10, 10);
        actsAre(x, 1, 0, 5, 6 + 13, 20, 10);
        actsAre(x, 1, 1, 5, 38, 11, 20, 10);
        actsAre(x, 1, 2, 5, 38 ^ 6, 12, 11, 20, 10, 20, 10);
        actsAre(x, 2, 0, 5, 7, 10);
        actsAre(x, 2, 1, 5, 14, 11, 10);
        actsAre(x, 2, 2, 5, -(14 ^ (5 - 23 + 2)), 50, 12, 11, 10, 10);
        actsAre(x, 3, 0, 5, 8, 10);
        actsAre(x, 3, 1, 5, 16, 11, 10);
        actsAre(x, 3, 2, 5, -(16 ^ (5 - 33 + 3)) ^ 5, 60, 50, 12, 11, 10, 10);
        actsAre(x, 4, 0, 5, 9 + 43, 20, 10);
        actsAre(x, 4, 1, 5, 52 * 2 * 3, 30, 11, 20, 10);
        actsAre(x, 4, 2, 5, 312 ^ 9, 12, 30, 11, 20, 10, 20, 10);
        actsAre(x, 5, 0, 5, 20, 70, 10);
        actsAre(x, 5, 1, 5, (5 - 53 + 5) * 2 * 2, 71, 11, 70, 10);
        actsAre(x, 5, 2, 5, -172 ^ (5 - 53 + 5) * 2, 12, 71, 11, 70, 10, 70, 10);
        actsAre(x, 6, 0, 5, 11 + 63, 20, 10);
        actsAre(x, 6, 1, 5, (6 + 6 + 63) * 2, 40, 11, 20, 10);
        actsAre(x, 6, 2, 5, (150 ^ 11) - 6, 41, 12, 40, 11, 20, 10, 20, 10);
    }

    private static void actsWrap() {
        AStreetByACane x = new AStreetByACane();
        x.sign(0, 0, 1, 0);
        x.sign(4, 0, 1, 9);
        x.sign(2, 0, 1, 0);
        Due.due("act wraps: feels", Integer.MIN_VALUE + 9, x.act(1, 0, Integer.MAX_VALUE));
        Due.due("act wraps: teaches", (Integer.MIN_VALUE + 9) * 2 * 3, x.act(1, 1, Integer.MAX_VALUE));
        Due.due("act wraps: fades", Integer.MIN_VALUE, x.act(0, 2, Integer.MIN_VALUE));
        Due.due("act wraps: minus", -(2 * (Integer.MAX_VALUE + 2) ^ Integer.MAX_VALUE + 2),
            x.act(2, 2, Integer.MAX_VALUE));
    }

    private static void actsOfNobody() {
        AStreetByACane x = new AStreetByACane();
        x.sign(0, 0, 1, 0);
        int[][] nobody = {{1, 0}, {-1, 0}, {0, 3}, {0, -1}, {Integer.MAX_VALUE, Integer.MAX_VALUE}};
        for (int[] n : nobody) {
            x.act(0, 2, 1);
            Due.due("act(" + n[0] + ", " + n[1] + ", 7)", 0, x.act(n[0], n[1], 7));
            Due.due("act of nobody: no trace", -1, x.trace(0));
            Due.due("act of nobody: no bodies", 0, x.status(8));
        }
        for (int i = 11; i <= 17; i++) {
            Due.due("act of nobody: no refusal", 0, x.status(i));
        }
    }

    private static void image() {
        AStreetByACane x = new AStreetByACane();
        x.street(6);
        x.wander(2, 3);
        x.ask(0, 4);
        x.ask(1, 1);
        x.ask(2, 7);
        x.sign(2, 3, 9, 5);
        x.thing(1, true, 4);
        x.begin(2);
        x.step(false);
        x.feel(0, true);
        x.seed(77);
        x.act(0, 0, 1);
        String before = Sight.of(x);
        Due.notRefused("image()", 1, x, () -> x.image());
        for (int round = 0; round < 2; round++) {
            change(x);
            Due.due("restore()", 1, x.restore());
            Due.due("restore: in truth", 2, x.begin(2));
            Due.due("restore: wander", 203, x.wander(2, 3));
            x.act(0, 0, 1);
            Due.same("restore: what can be seen", before, Sight.of(x));
        }
        x.thing(0, false, 1);
        x.sign(0, 0, 1, 1);
        Due.due("a second image()", 2, x.image());
        x.street(12);
        Due.due("restore() of the second", 2, x.restore());
        Due.due("restore: things of the second", 2, x.status(2));
    }

    private static void change(AStreetByACane x) {
        x.street(9);
        x.wander(1, 1);
        x.ask(0, 0);
        x.ask(1, 0);
        x.ask(2, 1);
        x.sign(0, 8, 1, 0);
        x.sign(0, 8, 1, 0);
        x.thing(8, false, 1);
        x.begin(8);
        x.goes(true);
        x.looks(0);
        x.act(1, 2, 1);
    }

    private static void restoreShelves() {
        AStreetByACane x = new AStreetByACane();
        x.sign(0, 0, 1, 0);
        x.sign(6, 0, 1, 14);
        x.image();
        x.sign(0, 0, 1, 0);
        x.show(0, 0);
        x.show(1, 1);
        x.show(2, 2);
        Due.put(x, 3, 5, 6);
        Due.put(x, 4, "arc 0");
        x.town(4);
        x.act(1, 0, 2);
        Due.due("restore()", 2, x.restore());
        int[] held = {0, 1, -1, 102, 100};
        for (int s = 0; s < held.length; s++) {
            Due.due("restore: holds(" + s + ")", held[s], x.holds(s));
        }
        Due.due("restore: rows stay", 6, x.element(3, 1));
        Due.due("restore: the fault stays", 4, x.fault());
        Due.due("restore: the trace stays", 20, x.trace(0));
        Due.due("restore: refusals stay", 1, x.status(16));
        x.street(20);
        x.sign(3, 0, 7, 255);
        x.show(5, 0);
        Due.due("restore() of another street", 2, x.restore());
        Due.due("restore: the shelf holds that number", 0, x.holds(5));
        Due.due("restore: the sign of that number", 1, x.says(5, 0));
    }

    private static void restoreRefused() {
        AStreetByACane x = new AStreetByACane();
        x.sign(0, 0, 1, 0);
        Due.refused("restore() of none", -6, x, () -> x.restore());
        Due.notRefused("image()", 1, x, () -> x.image());
        Due.notRefused("restore()", 1, x, () -> x.restore());
    }

    private static void status() {
        AStreetByACane x = new AStreetByACane();
        for (int what : new int[] {-1, 10, 18, 99, Integer.MAX_VALUE, Integer.MIN_VALUE, Integer.MIN_VALUE + 9,
            Integer.MIN_VALUE + 11}) {
            Due.notRefused("status(" + what + ")", -1, x, () -> x.status(what));
        }
        x.row(9, 0, 0);
        x.says(9, 0);
        x.row(0, 0, 0);
        x.says(0, 0);
        x.says(1, 0);
        x.row(0, 0, -1);
        x.set(0, 0, 0);
        x.thingOf(0, 0);
        x.least(11);
        x.row(0, 0, 161);
        int[] due = {2, 1, 1, 1, 2, 1, 1};
        for (int i = 0; i < due.length; i++) {
            Due.due("status(" + (11 + i) + ")", due[i], x.status(11 + i));
        }
    }
}
