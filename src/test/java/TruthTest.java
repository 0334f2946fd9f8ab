/** Promises 39 to 43: a walk in truth by draws. */
public final class TruthTest {
    private TruthTest() {
    }

    public static void main(String[] args) {
        begin();
        goes();
        goesOnAShortStreet();
        goesRefused();
        looks();
        looksRefused();
        right();
        seed();
        Due.end();
    }

    private static int seedThen(int seed) {
        return (int) (seed * 1103515245L + 12345L);
    }

    private static int draw(int seed) {
        return (seedThen(seed) >> 16 & 0xffff) % 10;
    }

    private static void begin() {
        AStreetByACane x = new AStreetByACane();
        x.step(false);
        long all = x.odds(-1);
        Due.due("begin(4)", -1, x.begin(4));
        Due.due("begin(11)", 4, x.begin(11));
        Due.due("begin(0)", 11, x.begin(0));
        Due.due("begin: what he knows stays", all, x.odds(-1));
        Due.due("begin: news stay", 1, x.status(3));
        Due.due("begin: steps stay", 1, x.status(4));
        Due.refused("begin(12)", -1, x, () -> x.begin(12));
        Due.refused("begin(-1)", -1, x, () -> x.begin(-1));
        Due.due("begin: still there", 0, x.begin(0));
    }

    private static void goes() {
        boolean[] came = new boolean[3];
        for (int round = 0; round < 8; round++) {
            goesAWhile(round * 54321987, came);
        }
        Due.due("goes: all came", 1, came[0] && came[1] && came[2] ? 1 : 0);
    }

    private static void goesAWhile(int firstSeed, boolean[] came) {
        AStreetByACane x = new AStreetByACane();
        AStreetByACane y = new AStreetByACane();
        x.wander(3, 4);
        y.wander(3, 4);
        x.begin(5);
        x.seed(firstSeed);
        int cell = 5;
        int seed = firstSeed;
        for (int i = 0; i < 40; i++) {
            boolean back = cell > 5;
            int drawn = draw(seed);
            seed = seedThen(seed);
            int cells = drawn < 3 ? 0 : drawn < 7 ? 2 : 1;
            came[cells] = true;
            cell += back ? -cells : cells;
            if (i % 16 == 0) {
                x.lost(-1);
                y.lost(-1);
            }
            Due.due("goes(" + back + ")", cells, x.goes(back));
            y.step(back);
            Due.due("goes: in truth", cell, x.begin(cell));
            Due.due("goes: seed", seed, x.status(9));
            Due.due("goes: news", y.status(3), x.status(3));
            Due.due("goes: steps", y.status(4), x.status(4));
            Due.due("goes: where", y.where(), x.where());
            Due.due("goes: odds", y.odds(-1), x.odds(-1));
        }
    }

    private static void goesOnAShortStreet() {
        AStreetByACane x = new AStreetByACane();
        x.street(2);
        x.wander(0, 10);
        x.begin(0);
        Due.due("goes beyond the end", 2, x.goes(false));
        Due.due("goes: the end", 1, x.begin(1));
        Due.due("goes back beyond the end", 2, x.goes(true));
        Due.due("goes: the other end", 0, x.begin(0));
    }

    private static void goesRefused() {
        AStreetByACane x = new AStreetByACane();
        Due.refused("goes, not set down", -6, x, () -> x.goes(false));
        for (int i = 0; i < 16; i++) {
            x.step(false);
        }
        Due.refused("goes, neither set down nor any more", -6, x, () -> x.goes(false));
        x.begin(3);
        Due.refused("goes, no more", -7, x, () -> x.goes(true));
        Due.due("goes, refused: in truth", 3, x.begin(3));
    }

    private static void looks() {
        boolean[] came = new boolean[2];
        for (int round = 0; round < 8; round++) {
            looksAWhile(round * 54321987, came);
        }
        Due.due("looks: both came", 1, came[0] && came[1] ? 1 : 0);
    }

    private static void looksAWhile(int firstSeed, boolean[] came) {
        AStreetByACane x = new AStreetByACane();
        AStreetByACane y = new AStreetByACane();
        x.sign(2, 4, 7, 0);
        y.sign(2, 4, 7, 0);
        x.seed(firstSeed);
        int seed = firstSeed;
        for (int i = 0; i < 40; i++) {
            int cell = i % 2 == 0 ? 4 : 5;
            if (i % 8 == 0) {
                x.lost(-1);
                y.lost(-1);
            }
            x.begin(cell);
            int is = draw(seed) < (cell == 4 ? 7 : 3) ? 1 : 0;
            seed = seedThen(seed);
            came[is] = true;
            Due.due("looks(0)", is, x.looks(0));
            y.feel(0, is == 1);
            Due.due("looks: seed", seed, x.status(9));
            Due.due("looks: news", y.status(3), x.status(3));
            Due.due("looks: odds", y.odds(-1), x.odds(-1));
            Due.due("looks: odds there", y.odds(cell), x.odds(cell));
        }
    }

    private static void looksRefused() {
        AStreetByACane x = new AStreetByACane();
        x.sign(0, 3, 10, 0);
        Due.refused("looks, not set down", -6, x, () -> x.looks(0));
        Due.refused("looks(1)", -1, x, () -> x.looks(1));
        Due.refused("looks(-1)", -1, x, () -> x.looks(-1));
        x.begin(4);
        x.lost(3);
        Due.refused("looks: not there can't be", -6, x, () -> x.looks(0));
        x.lost(4);
        x.begin(3);
        Due.refused("looks: there can't be", -6, x, () -> x.looks(0));
        x.lost(3);
        x.wander(10, 0);
        for (int i = 0; i < 16; i++) {
            x.step(false);
        }
        Due.refused("looks, no more", -7, x, () -> x.looks(0));
        x.begin(4);
        Due.refused("looks: can't be, nor any more", -6, x, () -> x.looks(0));
    }

    private static void right() {
        AStreetByACane x = new AStreetByACane();
        Due.refused("right(), not set down", -6, x, () -> x.right());
        x.begin(0);
        Due.notRefused("right() by the first of several", 1, x, () -> x.right());
        x.begin(1);
        Due.notRefused("right() elsewhere", 0, x, () -> x.right());
        x.lost(1);
        Due.notRefused("right()", 1, x, () -> x.right());
    }

    private static void seed() {
        AStreetByACane x = new AStreetByACane();
        int[] seeds = {0, -1, Integer.MIN_VALUE, Integer.MAX_VALUE, 7};
        int before = 1;
        for (int v : seeds) {
            Due.due("seed(" + v + ")", before, x.seed(v));
            Due.due("seed: status", v, x.status(9));
            before = v;
        }
        Due.due("seed: no refusal", 0, x.status(16));
        x.wander(5, 0);
        x.begin(5);
        for (int v = -40; v < 40; v++) {
            x.lost(-1);
            x.begin(5);
            x.seed(v * 54321987);
            Due.due("seed " + v + ": goes", draw(v * 54321987) < 5 ? 0 : 1, x.goes(false));
        }
    }
}
