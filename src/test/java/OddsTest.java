/** Promises 20 to 28: where he is. */
public final class OddsTest {
    private static final int STEP = 0;
    private static final int BACK = 1;

    private OddsTest() {
    }

    public static void main(String[] args) {
        lost();
        odds();
        strengthOfPlainKinds();
        strengthByHoursAndSteps();
        strengthRefused();
        step();
        stepRefused();
        feel();
        feelRefused();
        where();
        isLost();
        judge();
        judgeRefused();
        told();
        Due.end();
    }

    private static void oddsAre(String when, AStreetByACane x, long... due) {
        long all = 0;
        for (int c = 0; c < due.length; c++) {
            Due.due(when + ": odds(" + c + ")", due[c], x.odds(c));
            all += due[c];
        }
        Due.due(when + ": odds(NONE)", all, x.odds(-1));
    }

    private static void lost() {
        AStreetByACane x = new AStreetByACane();
        x.street(4);
        x.begin(2);
        x.step(false);
        x.step(false);
        Due.due("lost(3)", 2, x.lost(3));
        oddsAre("lost(3)", x, 0, 0, 0, 1);
        Due.due("lost(3): news", 0, x.status(3));
        Due.due("lost(3): steps", 0, x.status(4));
        x.step(true);
        Due.due("lost(0)", 1, x.lost(0));
        oddsAre("lost(0)", x, 1, 0, 0, 0);
        x.step(true);
        Due.due("lost(NONE)", 1, x.lost(-1));
        oddsAre("lost(NONE)", x, 1, 1, 1, 1);
        Due.due("lost(NONE): steps", 0, x.status(4));
        Due.due("lost: in truth he stays", 2, x.begin(2));
        x.step(false);
        Due.refused("lost(4)", -1, x, () -> x.lost(4));
        Due.refused("lost(-2)", -1, x, () -> x.lost(-2));
    }

    private static void odds() {
        AStreetByACane x = new AStreetByACane();
        x.street(2);
        Due.due("odds(1)", 1, x.odds(1));
        Due.notRefused("odds(NONE)", 2, x, () -> x.odds(-1));
        Due.refused("odds(2)", -1, x, () -> x.odds(2));
        Due.refused("odds(-2)", -1, x, () -> x.odds(-2));
        Due.refused("odds(MAX)", -1, x, () -> x.odds(Integer.MAX_VALUE));
    }

    private static void strengthsAre(String when, AStreetByACane x, int sign, int... due) {
        for (int c = 0; c < due.length; c++) {
            int cell = c;
            Due.notRefused(when + ": strength(" + sign + ", " + c + ")", due[c], x, () -> x.strength(sign, cell));
        }
    }

    private static void strengthOfPlainKinds() {
        AStreetByACane x = new AStreetByACane();
        x.street(5);
        x.sign(0, 2, 7, 0);
        x.sign(1, 2, 7, 0);
        x.sign(2, 2, 7, 0);
        x.sign(4, 2, 7, 0);
        x.sign(6, 2, 7, 14);
        x.sign(2, 0, 1, 0);
        x.sign(6, 3, 9, 3);
        int[][] due = {{0, 0, 7, 0, 0}, {0, 0, 7, 0, 0}, {0, 3, 7, 3, 0}, {0, 0, 7, 0, 0}, {0, 0, 7, 0, 7},
            {1, 0, 0, 0, 0}, {0, 0, 0, 9, 0}};
        int[][] inSnow = {{0, 0, 7, 0, 0}, {0, 0, 0, 0, 0}, {0, 3, 7, 3, 0}, {0, 0, 3, 0, 0}, {0, 0, 0, 0, 0},
            {1, 0, 0, 0, 0}, {0, 0, 0, 0, 0}};
        for (int sign = 0; sign < due.length; sign++) {
            x.ask(1, 0);
            strengthsAre("no snow", x, sign, due[sign]);
            x.ask(1, 1);
            strengthsAre("snow", x, sign, inSnow[sign]);
        }
    }

    private static void strengthByHoursAndSteps() {
        AStreetByACane x = new AStreetByACane();
        x.street(4);
        x.sign(3, 3, 9, 0b10000010);
        x.sign(5, 0, 6, 2);
        for (int hour = 0; hour < 8; hour++) {
            x.ask(0, hour);
            if (hour == 1 || hour == 7) {
                strengthsAre("hour " + hour, x, 0, 0, 0, 4, 9);
            } else {
                strengthsAre("hour " + hour, x, 0, 0, 0, 0, 0);
            }
        }
        x.ask(1, 1);
        strengthsAre("smelt in snow", x, 0, 0, 0, 4, 9);
        for (int steps = 0; steps < 4; steps++) {
            int a = steps == 2 ? 6 : 0;
            strengthsAre("behind steps " + steps, x, 1, a, a, a, a);
            x.step(steps == 1);
        }
    }

    private static void strengthRefused() {
        AStreetByACane x = new AStreetByACane();
        x.sign(0, 0, 1, 0);
        Due.refused("strength(1, 0)", -1, x, () -> x.strength(1, 0));
        Due.refused("strength(-1, 0)", -1, x, () -> x.strength(-1, 0));
        Due.refused("strength(0, 12)", -1, x, () -> x.strength(0, 12));
        Due.refused("strength(0, -1)", -1, x, () -> x.strength(0, -1));
    }

    private static void step() {
        AStreetByACane x = new AStreetByACane();
        x.street(3);
        Due.due("step(false)", 1, x.step(false));
        oddsAre("a step onward", x, 1, 9, 20);
        Due.due("step: steps", 1, x.status(4));
        x.lost(-1);
        Due.due("step(true)", 1, x.step(true));
        oddsAre("a step back", x, 20, 9, 1);
        x.lost(-1);
        x.wander(0, 0);
        x.step(false);
        oddsAre("made smaller by what goes into all", x, 0, 1, 2);
        x.lost(0);
        x.wander(2, 3);
        x.step(false);
        oddsAre("stays 2, one 5, two 3", x, 2, 5, 3);
        x.step(true);
        oddsAre("and back", x, 2 * 10 + 5 * 8 + 3 * 3, 5 * 2 + 3 * 5, 3 * 2);
        Due.due("step: news", 2, x.status(3));
        x.wander(10, 0);
        x.step(false);
        oddsAre("he stays", x, 69, 25, 6);
        x.street(2);
        x.wander(0, 10);
        x.step(true);
        oddsAre("two, and no farther than the end", x, 1, 0);
    }

    private static void stepRefused() {
        AStreetByACane x = new AStreetByACane();
        x.street(24);
        for (int i = 1; i <= 16; i++) {
            Due.due("step: news", i, x.step(i % 2 == 0));
        }
        Due.refused("a 17th step", -7, x, () -> x.step(false));
        Due.refused("a 17th step back", -7, x, () -> x.step(true));
    }

    private static void feel() {
        AStreetByACane x = new AStreetByACane();
        x.street(4);
        x.sign(2, 1, 9, 0);
        x.sign(0, 1, 10, 0);
        x.sign(5, 0, 4, 1);
        Due.due("feel(0, true)", 1, x.feel(0, true));
        oddsAre("a sound is there", x, 4, 9, 4, 0);
        Due.due("feel(0, false)", 2, x.feel(0, false));
        oddsAre("a sound isn't there", x, 8, 3, 8, 0);
        Due.due("feel: steps", 0, x.status(4));
        x.step(false);
        Due.due("feel(2, true)", 4, x.feel(2, true));
        x.lost(-1);
        x.feel(1, true);
        oddsAre("a sure sign", x, 0, 1, 0, 0);
        x.lost(-1);
        x.feel(1, false);
        oddsAre("no sure sign", x, 1, 0, 1, 1);
    }

    private static void feelRefused() {
        canBeInTheFirstCell();
        AStreetByACane x = new AStreetByACane();
        x.street(3);
        x.sign(0, 1, 10, 0);
        x.sign(0, 2, 5, 0);
        x.sign(5, 0, 10, 0);
        x.lost(1);
        Due.refused("feel(3, true)", -1, x, () -> x.feel(3, true));
        Due.refused("feel(-1, true)", -1, x, () -> x.feel(-1, true));
        Due.refused("feel(0, false): it can't be", -6, x, () -> x.feel(0, false));
        Due.refused("feel(1, true): it can't be", -6, x, () -> x.feel(1, true));
        Due.refused("feel(2, false): it can't be", -6, x, () -> x.feel(2, false));
        for (int i = 1; i <= 16; i++) {
            Due.due("feel: news", i, x.feel(0, true));
        }
        Due.refused("feel: it can't be, nor any more", -6, x, () -> x.feel(0, false));
        Due.refused("feel: no more", -7, x, () -> x.feel(0, true));
        Due.refused("feel: no such one, nor any more", -1, x, () -> x.feel(3, true));
    }

    private static void canBeInTheFirstCell() {
        AStreetByACane x = new AStreetByACane();
        x.sign(0, 0, 1, 0);
        x.lost(0);
        Due.due("feel: it can just be", 1, x.feel(0, true));
        Due.due("feel: it can well not be", 2, x.feel(0, false));
        oddsAre("the first cell", x, 1, 0);
    }

    private static void where() {
        AStreetByACane x = new AStreetByACane();
        x.sign(0, 7, 6, 0);
        x.sign(0, 3, 6, 0);
        Due.notRefused("where() of even odds", 0, x, () -> x.where());
        x.feel(0, false);
        Due.due("where() of several", 0, x.where());
        x.lost(7);
        Due.due("where()", 7, x.where());
        x.lost(11);
        x.wander(5, 0);
        x.step(true);
        Due.due("where() of two the first", 10, x.where());
    }

    private static void isLost() {
        AStreetByACane x = new AStreetByACane();
        Due.notRefused("isLost() at first", 1, x, () -> x.isLost());
        x.lost(5);
        Due.due("isLost() in a cell", 0, x.isLost());
        x.wander(5, 0);
        x.step(false);
        Due.due("isLost() by just the half", 0, x.isLost());
        x.lost(5);
        x.wander(4, 3);
        x.step(false);
        Due.due("isLost() by less than the half", 1, x.isLost());
        x.street(2);
        Due.due("isLost() of two", 0, x.isLost());
    }

    private static void judge() {
        AStreetByACane x = new AStreetByACane();
        x.street(6);
        x.wander(0, 0);
        x.sign(0, 2, 10, 0);
        x.sign(5, 0, 10, 2);
        x.lost(1);
        Due.put(x, 0, STEP, 10, STEP, 11, BACK, 10, 21, 20);
        Due.notRefused("judge of none", -1, x, () -> x.judge(0, 0));
        Due.notRefused("judge of seven", -1, x, () -> x.judge(0, 7));
        Due.notRefused("judge of eight", 7, x, () -> x.judge(0, 8));
        int[] noNews = {2, 9, 12, 17, 18, 19, 22, 28, -1, 100, Integer.MAX_VALUE, Integer.MIN_VALUE,
            Integer.MIN_VALUE + 20, Integer.MIN_VALUE + 10};
        for (int news : noNews) {
            Due.put(x, 1, STEP, news, STEP);
            Due.notRefused("judge of " + news, 1, x, () -> x.judge(1, 3));
        }
        x.row(2, 3, 2);
        x.set(2, 0, (1L << 32) + BACK);
        x.set(2, 1, (5L << 32) + 10);
        x.lost(3);
        Due.notRefused("judge of longs", -1, x, () -> x.judge(2, 2));
        x.step(false);
        Due.put(x, 3, new int[16]);
        Due.notRefused("judge up to 16 news", -1, x, () -> x.judge(3, 15));
        Due.notRefused("judge above 16 news", 15, x, () -> x.judge(3, 16));
    }

    private static void judgeRefused() {
        AStreetByACane x = new AStreetByACane();
        x.sign(0, 0, 1, 0);
        x.show(1, 0);
        Due.put(x, 0, new int[20]);
        Due.put(x, 3, 99);
        for (int i = 0; i < 2; i++) {
            boolean judges = i == 0;
            Due.refused("news on 8", -1, x, () -> ask(x, judges, 8, -1));
            Due.refused("news on a sign", -2, x, () -> ask(x, judges, 1, -1));
            Due.refused("news on nothing", -3, x, () -> ask(x, judges, 2, -1));
            Due.refused("news below 0", -4, x, () -> ask(x, judges, 0, -1));
            Due.refused("news beyond", -5, x, () -> ask(x, judges, 0, 21));
            Due.refused("news far beyond", -5, x, () -> ask(x, judges, 0, Integer.MAX_VALUE));
            Due.refused("17 news", -6, x, () -> ask(x, judges, 0, 17));
        }
        Due.refused("told can't go on", -6, x, () -> x.told(3, 1));
    }

    private static long ask(AStreetByACane x, boolean judges, int s, int n) {
        return judges ? x.judge(s, n) : x.told(s, n);
    }

    private static void told() {
        AStreetByACane x = new AStreetByACane();
        x.street(6);
        x.wander(0, 0);
        x.sign(0, 2, 10, 0);
        x.lost(3);
        Due.put(x, 0, STEP, STEP, BACK, BACK, BACK, BACK, 10);
        int[] sure = {3, 4, 5, 4, 3, 2, 1};
        for (int n = 0; n < sure.length; n++) {
            int told = n;
            Due.notRefused("told(0, " + n + ")", sure[n], x, () -> x.told(0, told));
        }
        Due.refused("told(0, 7)", -6, x, () -> x.told(0, 7));
        Due.put(x, 0, STEP, 10);
        x.lost(-1);
        Due.notRefused("told(0, 2)", 2, x, () -> x.told(0, 2));
    }
}
