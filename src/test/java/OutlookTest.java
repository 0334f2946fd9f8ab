/** Promises 29 to 38: what is made of it. */
public final class OutlookTest {
    private OutlookTest() {
    }

    public static void main(String[] args) {
        worth();
        worthRefused();
        next();
        ahead();
        least();
        safe();
        first();
        order();
        over();
        learnt();
        goings();
        Due.end();
    }

    private static void worth() {
        AStreetByACane x = new AStreetByACane();
        x.street(2);
        x.sign(0, 0, 5, 0);
        x.sign(0, 1, 10, 0);
        Due.notRefused("worth(0)", 1, x, () -> x.worth(0));
        Due.notRefused("worth(1)", 5 + 10, x, () -> x.worth(1));
        Due.notRefused("worth(2)", 10 + 10, x, () -> x.worth(2));
        // there, there: none; there, not: 50; not, there: 100; not, not: 50
        Due.notRefused("worth(3)", 50 + 100 + 50, x, () -> x.worth(3));
        x.feel(0, false);
        Due.notRefused("worth(0) by odds 1, 2", 2, x, () -> x.worth(0));
        Due.notRefused("worth(1) by odds 1, 2", 5 + 20, x, () -> x.worth(1));
        AStreetByACane y = new AStreetByACane();
        y.sign(5, 0, 4, 1);
        Due.due("worth of a count not yet", 10, y.worth(1));
        y.lost(0);
        y.wander(10, 0);
        y.step(false);
        Due.due("worth of a count now", 4 + 6, y.worth(1));
    }

    private static void worthRefused() {
        AStreetByACane x = new AStreetByACane();
        x.sign(0, 0, 5, 0);
        x.sign(0, 1, 5, 0);
        Due.refused("worth(4)", -1, x, () -> x.worth(4));
        Due.refused("worth(-1)", -1, x, () -> x.worth(-1));
        Due.refused("worth(MIN)", -1, x, () -> x.worth(Integer.MIN_VALUE));
        for (int i = 0; i < 15; i++) {
            x.feel(0, false);
        }
        Due.due("news 15: worth is told", 1, x.worth(3) > 0 ? 1 : 0);
        x.feel(0, false);
        Due.due("news 16: worth of one is told", 1, x.worth(2) > 0 ? 1 : 0);
        Due.refused("news 16: worth of two", -7, x, () -> x.worth(3));
        Due.refused("news 16: worth beyond", -1, x, () -> x.worth(7));
        AStreetByACane y = new AStreetByACane();
        for (int i = 0; i < 8; i++) {
            y.sign(0, i, 5, 0);
        }
        Due.due("eight signs: worth is told", 1, y.worth(255) > 0 ? 1 : 0);
        Due.due("eight signs: worth of the last", 5 + 10, y.worth(128));
        Due.due("eight signs: worth of the first and the last", 50 + 50 + 100, y.worth(129));
        Due.refused("eight signs: worth(256)", -1, y, () -> y.worth(256));
    }

    private static void next() {
        AStreetByACane x = new AStreetByACane();
        Due.refused("next() of none", -5, x, () -> x.next());
        x.street(3);
        x.sign(0, 0, 5, 0);
        Due.notRefused("next() of one", 0, x, () -> x.next());
        x.sign(0, 1, 8, 0);
        x.sign(0, 2, 8, 0);
        Due.notRefused("next() of several the first", 1, x, () -> x.next());
        x.feel(1, false);
        x.sign(0, 0, 6, 0);
        Due.notRefused("next() by odds", 2, x, () -> x.next());
        x.lost(0);
        Due.notRefused("next() in a cell", 0, x, () -> x.next());
        for (int i = 0; i < 16; i++) {
            x.step(false);
        }
        Due.notRefused("next() behind 16 news", 0, x, () -> x.next() < 0 ? x.next() : 0);
    }

    private static void ahead() {
        AStreetByACane x = new AStreetByACane();
        Due.refused("ahead() of none", -5, x, () -> x.ahead());
        x.street(4);
        x.sign(0, 3, 10, 0);
        Due.notRefused("ahead() of one", 0, x, () -> x.ahead());
        x.sign(2, 0, 10, 0);
        x.sign(6, 1, 10, 3);
        // 0 first: 100 and 200. 1 first: 150 and 200. 2 first: 200 and 200.
        Due.notRefused("ahead() of three", 2, x, () -> x.ahead());
        aheadBehindNews();
        aheadUnlikeNext();
        aheadByBothAnswers();
    }

    private static void aheadBehindNews() {
        AStreetByACane x = new AStreetByACane();
        x.sign(0, 0, 5, 0);
        for (int i = 0; i < 15; i++) {
            x.feel(0, false);
        }
        Due.notRefused("ahead() behind 15 news", 0, x, () -> x.ahead());
        x.feel(0, false);
        Due.refused("ahead() behind 16 news", -7, x, () -> x.ahead());
        AStreetByACane y = new AStreetByACane();
        for (int i = 0; i < 16; i++) {
            y.step(false);
        }
        Due.refused("ahead() of none behind 16 news", -5, y, () -> y.ahead());
    }

    /** Alone each of the three is worth the same; ahead, those that halve the street are worth more. */
    private static void aheadUnlikeNext() {
        AStreetByACane x = new AStreetByACane();
        x.street(4);
        x.sign(0, 0, 10, 0);
        x.sign(6, 0, 10, 1);
        x.sign(6, 1, 10, 2);
        Due.due("next() of the three", 0, x.next());
        // 0 first: 100 and 200. 1 first: 200 and 200, and so is 2.
        Due.due("ahead() of the three", 1, x.ahead());
    }

    private static void aheadByBothAnswers() {
        AStreetByACane x = new AStreetByACane();
        x.street(4);
        x.sign(0, 1, 10, 0);
        x.sign(0, 3, 5, 0);
        x.sign(6, 3, 5, 0);
        // If it is there, and if not: 100 and 150, 50 and 200, 75 and 200.
        Due.due("ahead() by both answers", 2, x.ahead());
    }

    private static void least() {
        AStreetByACane x = new AStreetByACane();
        x.street(2);
        Due.notRefused("least(5) of no signs", 0, x, () -> x.least(5));
        Due.notRefused("least(6) of no signs", -1, x, () -> x.least(6));
        x.sign(0, 0, 5, 0);
        Due.notRefused("least(7) of 15 in 20", 1, x, () -> x.least(7));
        Due.notRefused("least(8) of 15 in 20", -1, x, () -> x.least(8));
        x.sign(0, 0, 5, 0);
        // there or there: 25 + 25 + 25, none: 100
        Due.notRefused("least(8) of 175 in 200", 3, x, () -> x.least(8));
        Due.notRefused("least(9) of 175 in 200", -1, x, () -> x.least(9));
        x.sign(0, 1, 10, 0);
        Due.notRefused("least(10)", 4, x, () -> x.least(10));
        Due.notRefused("least(6): of several the least as bits", 1, x, () -> x.least(6));
        Due.notRefused("least(0)", 0, x, () -> x.least(0));
        x.sign(0, 0, 10, 0);
        Due.notRefused("least(10) of several", 4, x, () -> x.least(10));
        leastRefused(x);
        leastOfAll();
    }

    private static void leastRefused(AStreetByACane x) {
        for (int t : new int[] {-1, 11, Integer.MAX_VALUE, Integer.MIN_VALUE}) {
            Due.refusedAs("least(" + t + ")", -16, -6, x, () -> x.least(t));
        }
        for (int i = 0; i < 9; i++) {
            x.step(false);
        }
        Due.notRefused("least(0) behind nine news", 0, x, () -> x.least(0));
        x.step(false);
        Due.refusedAs("least(0) behind ten news", -17, -7, x, () -> x.least(0));
        Due.refusedAs("least(11) behind ten news", -16, -6, x, () -> x.least(11));
    }

    /** 24 cells and eight signs behind nine news: the greatest numbers there are. */
    private static void leastOfAll() {
        AStreetByACane x = new AStreetByACane();
        x.street(24);
        for (int i = 0; i < 8; i++) {
            x.sign(6, i, 9, i + 8);
        }
        for (int i = 0; i < 9; i++) {
            x.step(i % 2 == 0);
        }
        Due.notRefused("least(10) of all", -1, x, () -> x.least(10));
        Due.notRefused("least(0) of all", 0, x, () -> x.least(0));
    }

    private static AStreetByACane walk() {
        AStreetByACane x = new AStreetByACane();
        x.ask(2, 4);
        x.thing(3, true, 2);
        x.thing(3, false, 5);
        x.thing(6, true, 10);
        x.thing(8, false, 1);
        x.thing(10, true, 10);
        return x;
    }

    private static void safe() {
        AStreetByACane x = walk();
        Due.notRefused("safe(0, 2)", 1, x, () -> x.safe(0, 2));
        Due.notRefused("safe(0, 3)", 80 * 70, x, () -> x.safe(0, 3));
        Due.notRefused("safe(3, 0)", 80 * 70, x, () -> x.safe(3, 0));
        Due.notRefused("safe(3, 5)", 80 * 70, x, () -> x.safe(3, 5));
        Due.notRefused("safe(4, 5)", 1, x, () -> x.safe(4, 5));
        Due.notRefused("safe(6, 6)", 0, x, () -> x.safe(6, 6));
        Due.notRefused("safe(9, 7)", 94, x, () -> x.safe(9, 7));
        x.ask(2, 9);
        Due.notRefused("safe(0, 3), arc 9", 80 * 95, x, () -> x.safe(0, 3));
        x.ask(2, 1);
        Due.notRefused("safe(0, 3), arc 1", 80 * 55, x, () -> x.safe(0, 3));
        Due.refused("safe(-1, 0)", -1, x, () -> x.safe(-1, 0));
        Due.refused("safe(0, 12)", -1, x, () -> x.safe(0, 12));
        AStreetByACane y = new AStreetByACane();
        y.ask(2, 9);
        for (int i = 0; i < 8; i++) {
            y.thing(i, false, 1);
        }
        Due.due("safe past eight", 9227446944279201L, y.safe(11, 0));
    }

    private static void first() {
        AStreetByACane x = walk();
        Due.notRefused("first(0, 5)", 1, x, () -> x.first(0, 5));
        Due.notRefused("first(9, 0)", 2, x, () -> x.first(9, 0));
        Due.notRefused("first(0, 11) of two sure ones", 0, x, () -> x.first(0, 11));
        Due.notRefused("first(8, 7)", 3, x, () -> x.first(8, 7));
        x.ask(2, 6);
        Due.notRefused("first(0, 5) of several the first", 0, x, () -> x.first(0, 5));
        Due.refused("first(0, 12)", -1, x, () -> x.first(0, 12));
        Due.refused("first(-1, 0)", -1, x, () -> x.first(-1, 0));
        Due.refused("first(0, 2)", -5, x, () -> x.first(0, 2));
    }

    private static void order() {
        AStreetByACane x = walk();
        int[] all = {0, 1, 2, 4, 3};
        for (int i = 0; i < all.length; i++) {
            int place = i;
            Due.notRefused("order(0, 11, " + i + ")", all[i], x, () -> x.order(0, 11, place));
            Due.notRefused("order(11, 0, " + i + ")", all[i], x, () -> x.order(11, 0, place));
        }
        int[] some = {2, 1, 0, 3};
        for (int i = 0; i < some.length; i++) {
            int place = i;
            Due.notRefused("order(0, 9, " + i + ")", some[i], x, () -> x.order(0, 9, place));
        }
        Due.refused("order(0, 9, 4)", -5, x, () -> x.order(0, 9, 4));
        Due.refused("order(0, 11, 5)", -5, x, () -> x.order(0, 11, 5));
        Due.refused("order(0, 9, -1)", -5, x, () -> x.order(0, 9, -1));
        Due.refused("order(0, 9, MAX)", -5, x, () -> x.order(0, 9, Integer.MAX_VALUE));
        Due.refused("order(0, 2, 0)", -5, x, () -> x.order(0, 2, 0));
        Due.refused("order(12, 0, -1)", -1, x, () -> x.order(12, 0, -1));
        Due.refused("order(0, -1, 0)", -1, x, () -> x.order(0, -1, 0));
    }

    private static void over() {
        AStreetByACane x = new AStreetByACane();
        int[] one = {2, 7, 1};
        int[] two = {4, 28, 2 * 2 + 49, 14, 1};
        for (int k = -1; k <= 1; k++) {
            Due.due("over(1, 2, 1, " + k + ")", one[k + 1], x.over(1, 2, 1, k));
        }
        for (int k = -2; k <= 2; k++) {
            Due.due("over(2, 2, 1, " + k + ")", two[k + 2], x.over(2, 2, 1, k));
        }
        Due.due("over(9, 10, 0, -9)", 1000000000, x.over(9, 10, 0, -9));
        Due.due("over(9, 0, 10, 9)", 1000000000, x.over(9, 0, 10, 9));
        Due.due("over(9, 0, 0, 0)", 1000000000, x.over(9, 0, 0, 0));
        Due.due("over(9, 0, 0, 1)", 0, x.over(9, 0, 0, 1));
        Due.due("over(9, 5, 5, 0)", 0, x.over(9, 5, 5, 0));
        Due.due("over(9, 5, 5, 9)", 1953125, x.over(9, 5, 5, 9));
        Due.due("over is of the road alone", 1, x.street(2) == 12 ? x.over(9, 0, 1, 9) : -1);
        int[][] wrong = {{0, 1, 1, 0}, {10, 1, 1, 0}, {-1, 0, 0, 0}, {1, -1, 1, 0}, {1, 1, -1, 0}, {1, 11, 0, 0},
            {1, 0, 11, 0}, {1, 5, 6, 0}, {2, 1, 1, 3}, {2, 1, 1, -3}, {1, Integer.MAX_VALUE, Integer.MAX_VALUE, 0},
            {1, Integer.MIN_VALUE, Integer.MIN_VALUE, 0}, {9, 1, 1, Integer.MIN_VALUE},
            {Integer.MIN_VALUE, 1, 1, 0}};
        for (int[] w : wrong) {
            Due.refused("over(" + w[0] + ", " + w[1] + ", " + w[2] + ", " + w[3] + ")", -6, x,
                () -> x.over(w[0], w[1], w[2], w[3]));
        }
    }

    private static void learnt() {
        AStreetByACane x = new AStreetByACane();
        int[] byGoings = {0, 25, 44, 58, 69, 77, 83, 88, 91, 94, 96, 97, 98, 99, 100, 100};
        for (int n = 0; n < byGoings.length; n++) {
            Due.due("learnt(" + n + ", 0)", byGoings[n], x.learnt(n, 0));
        }
        int[] byWeeks = {25, 22, 19, 17, 15, 13, 11, 9, 8, 7, 6, 5, 4, 3, 2, 1, 0, 0};
        for (int m = 0; m < byWeeks.length; m++) {
            Due.due("learnt(1, " + m + ")", byWeeks[m], x.learnt(1, m));
        }
        Due.due("learnt(99, 0)", 100, x.learnt(99, 0));
        Due.due("learnt(99, 1)", 90, x.learnt(99, 1));
        Due.due("learnt(99, 99)", 0, x.learnt(99, 99));
        int[][] wrong = {{-1, 0}, {100, 0}, {0, -1}, {0, 100}};
        for (int[] w : wrong) {
            Due.refused("learnt(" + w[0] + ", " + w[1] + ")", -6, x, () -> x.learnt(w[0], w[1]));
        }
    }

    private static void goings() {
        AStreetByACane x = new AStreetByACane();
        int[][] due = {{0, 0, 0}, {0, 99, 0}, {1, 0, 1}, {25, 0, 1}, {26, 0, 2}, {44, 0, 2}, {100, 0, 14},
            {90, 1, 14}, {91, 1, -1}, {1, 99, -1}, {22, 1, 1}, {23, 1, 2}, {1, 15, 1}, {1, 16, 2}};
        for (int[] d : due) {
            Due.notRefused("goings(" + d[0] + ", " + d[1] + ")", d[2], x, () -> x.goings(d[0], d[1]));
        }
        int[][] wrong = {{-1, 0}, {101, 0}, {0, -1}, {0, 100}};
        for (int[] w : wrong) {
            Due.refusedAs("goings(" + w[0] + ", " + w[1] + ")", -16, -6, x, () -> x.goings(w[0], w[1]));
        }
    }
}
