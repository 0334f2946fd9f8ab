/** Promises 1 to 8: a new object, and the shelves. */
public final class ShelvesTest {
    private ShelvesTest() {
    }

    public static void main(String[] args) {
        newObject();
        row();
        set();
        copy();
        element();
        show();
        holds();
        says();
        Due.end();
    }

    private static void newObject() {
        AStreetByACane x = new AStreetByACane();
        int[] atFirst = {12, 0, 0, 0, 0, 0, 0, 5, 0, 1};
        for (int what = 0; what < atFirst.length; what++) {
            Due.due("new: status(" + what + ")", atFirst[what], x.status(what));
        }
        for (int cell = 0; cell < 12; cell++) {
            Due.due("new: odds(" + cell + ")", 1, x.odds(cell));
        }
        for (int i = 1; i <= 7; i++) {
            Due.due("new: refusals -" + i, 0, x.status(10 + i));
        }
        for (int s = 0; s < 8; s++) {
            Due.due("new: holds(" + s + ")", -1, x.holds(s));
        }
        Due.due("new: fault()", -1, x.fault());
        Due.due("new: trace(0)", -1, x.trace(0));
        Due.refused("new: right()", -6, x, () -> x.right());
        Due.refused("new: restore()", -6, x, () -> x.restore());
        Due.due("new: wander as it was", 101, x.wander(0, 0));
    }

    private static void row() {
        AStreetByACane x = new AStreetByACane();
        Due.due("row(0, 0, 160)", 1, x.row(0, 0, 160));
        Due.due("row(7, 3, 0)", 1, x.row(7, 3, 0));
        Due.due("holds(7)", 103, x.holds(7));
        Due.due("set(0, 159, 9)", 1, x.set(0, 159, 9));
        Due.due("element(0, 159)", 9, x.element(0, 159));
        Due.due("row(0, 1, 160) anew", 1, x.row(0, 1, 160));
        Due.due("element(0, 159) of a new row", 0, x.element(0, 159));
        Due.refused("row(-1, 9, -1)", -1, x, () -> x.row(-1, 9, -1));
        Due.refused("row(8, 0, 1)", -1, x, () -> x.row(8, 0, 1));
        Due.refused("row(0, 9, -1)", -4, x, () -> x.row(0, 9, -1));
        Due.refused("row(0, 4, 161)", -6, x, () -> x.row(0, 4, 161));
        Due.refused("row(0, -1, 1)", -6, x, () -> x.row(0, -1, 1));
        Due.refused("row(0, 0, 161)", -7, x, () -> x.row(0, 0, 161));
        Due.refused("row(0, 0, MAX)", -7, x, () -> x.row(0, 0, Integer.MAX_VALUE));
    }

    private static void set() {
        AStreetByACane x = new AStreetByACane();
        long v = 0x1234567890abcdefL;
        long[] kept = {(byte) v, (short) v, (int) v, v};
        for (int sort = 0; sort < 4; sort++) {
            x.row(sort, sort, 2);
            Due.due("set(" + sort + ", 1, v)", 1, x.set(sort, 1, v));
            Due.due("element(" + sort + ", 1)", kept[sort], x.element(sort, 1));
            Due.due("element(" + sort + ", 0)", 0, x.element(sort, 0));
        }
        x.sign(0, 0, 1, 0);
        x.show(5, 0);
        Due.refused("set(8, ..)", -1, x, () -> x.set(8, 0, 1));
        Due.refused("set(-1, ..)", -1, x, () -> x.set(-1, 0, 1));
        Due.refused("set(5, ..) of a sign", -2, x, () -> x.set(5, 0, 1));
        Due.refused("set(6, ..) of nothing", -3, x, () -> x.set(6, 0, 1));
        Due.refused("set(0, -1, 1)", -5, x, () -> x.set(0, -1, 1));
        Due.refused("set(0, 2, 1)", -5, x, () -> x.set(0, 2, 1));
        Due.refused("set(0, MAX, 1)", -5, x, () -> x.set(0, Integer.MAX_VALUE, 1));
        Due.refused("set(0, MIN, 1)", -5, x, () -> x.set(0, Integer.MIN_VALUE, 1));
    }

    private static void copy() {
        AStreetByACane x = new AStreetByACane();
        Due.put(x, 0, 1, 2, 3, 4, 5);
        Due.put(x, 1, 0, 0, 0);
        Due.due("copy(0, 1, 2, 0, 3)", 1, x.copy(0, 1, 2, 0, 3));
        Due.due("element(1, 0)", 3, x.element(1, 0));
        Due.due("element(1, 2)", 5, x.element(1, 2));
        Due.due("copy(0, 0, 0, 1, 4) as they were", 1, x.copy(0, 0, 0, 1, 4));
        long[] moved = {1, 1, 2, 3, 4};
        for (int i = 0; i < 5; i++) {
            Due.due("element(0, " + i + ") moved on", moved[i], x.element(0, i));
        }
        Due.due("copy(0, 0, 1, 0, 4) as they were", 1, x.copy(0, 0, 1, 0, 4));
        Due.due("element(0, 3) moved back", 4, x.element(0, 3));
        Due.due("copy(0, 1, 5, 3, 0) of none", 1, x.copy(0, 1, 5, 3, 0));
        copyRefused(x);
    }

    private static void copyRefused(AStreetByACane x) {
        x.row(2, 3, 9);
        x.sign(0, 0, 1, 0);
        x.show(3, 0);
        Due.refused("copy(8, 3, ..)", -1, x, () -> x.copy(8, 3, 0, 0, -1));
        Due.refused("copy(3, -1, ..)", -1, x, () -> x.copy(3, -1, 0, 0, -1));
        Due.refused("copy of a sign to nothing", -2, x, () -> x.copy(3, 7, 0, 0, -1));
        Due.refused("copy of nothing to a sign", -2, x, () -> x.copy(7, 3, 0, 0, -1));
        Due.refused("copy of two sorts", -2, x, () -> x.copy(0, 2, 0, 0, -1));
        Due.refused("copy of nothing", -3, x, () -> x.copy(7, 0, 0, 0, -1));
        Due.refused("copy to nothing", -3, x, () -> x.copy(0, 7, 0, 0, -1));
        Due.refused("copy of -1", -4, x, () -> x.copy(0, 1, -1, -1, -1));
        Due.refused("copy from -1", -5, x, () -> x.copy(0, 1, -1, 0, 1));
        Due.refused("copy to -1", -5, x, () -> x.copy(0, 1, 0, -1, 0));
        Due.refused("copy beyond p", -5, x, () -> x.copy(0, 1, 3, 0, 3));
        Due.refused("copy beyond q", -5, x, () -> x.copy(0, 1, 0, 1, 3));
        Due.refused("copy of none beyond q", -5, x, () -> x.copy(0, 1, 0, 4, 0));
        Due.refused("copy far beyond", -5, x, () -> x.copy(0, 1, Integer.MAX_VALUE, 0, 2));
        Due.refused("copy of very many", -5, x, () -> x.copy(0, 0, 1, 1, Integer.MAX_VALUE));
    }

    private static void element() {
        AStreetByACane x = new AStreetByACane();
        Due.put(x, 0, 7);
        x.sign(0, 0, 1, 0);
        x.show(1, 0);
        Due.due("element(0, 0)", 7, x.element(0, 0));
        Due.notRefused("element(0, 1)", 0, x, () -> x.element(0, 1));
        Due.notRefused("element(0, -1)", 0, x, () -> x.element(0, -1));
        Due.notRefused("element(1, 0) of a sign", 0, x, () -> x.element(1, 0));
        Due.notRefused("element(2, 0) of nothing", 0, x, () -> x.element(2, 0));
        Due.notRefused("element(8, 0)", 0, x, () -> x.element(8, 0));
        Due.notRefused("element(-1, 0)", 0, x, () -> x.element(-1, 0));
        Due.put(x, 3, 5, 6);
        x.show(3, 0);
        Due.due("element(3, 0) of a row that went", 0, x.element(3, 0));
        x.row(3, 2, 1);
        Due.due("element(3, 0) of a row that came anew", 0, x.element(3, 0));
    }

    private static void show() {
        AStreetByACane x = new AStreetByACane();
        x.sign(0, 0, 1, 0);
        Due.put(x, 0, 1);
        Due.due("show(0, 0)", 1, x.show(0, 0));
        Due.due("holds(0)", 0, x.holds(0));
        Due.due("show(0, NONE)", 0, x.show(0, -1));
        Due.due("holds(0)", -1, x.holds(0));
        Due.refused("show(8, 0)", -1, x, () -> x.show(8, 0));
        Due.refused("show(-1, NONE)", -1, x, () -> x.show(-1, -1));
        Due.refused("show(0, 1)", -1, x, () -> x.show(0, 1));
        Due.refused("show(0, -2)", -1, x, () -> x.show(0, -2));
    }

    private static void holds() {
        AStreetByACane x = new AStreetByACane();
        for (int i = 0; i < 8; i++) {
            x.sign(0, i, 1, 0);
        }
        x.show(7, 7);
        Due.due("holds(7)", 7, x.holds(7));
        for (int sort = 0; sort < 4; sort++) {
            x.row(sort, sort, 0);
            Due.due("holds(" + sort + ")", 100 + sort, x.holds(sort));
        }
        Due.notRefused("holds(4)", -1, x, () -> x.holds(4));
        Due.notRefused("holds(8)", -1, x, () -> x.holds(8));
        Due.notRefused("holds(-1)", -1, x, () -> x.holds(-1));
    }

    /** Each kind's answers, as all that it can be taken for; -2 for the others. */
    private static void says() {
        int[][] answers = {
            {7, -2, -2, -2, -2, -2, -2},
            {7, 7, -2, -2, -2, -2, -2},
            {7, -2, 3, -2, -2, -2, -2},
            {7, -2, 3, 4, -2, -2, -2},
            {7, 7, -2, -2, 7, -2, -2},
            {7, -2, -2, -2, -2, 170, -2},
            {7, 7, -2, -2, -2, -2, 2},
        };
        AStreetByACane x = new AStreetByACane();
        for (int kind = 0; kind < 7; kind++) {
            x.sign(kind, 3, 7, 170);
            x.show(0, kind);
            for (int as = 0; as < 7; as++) {
                int taken = as;
                String call = "says of a " + kind + " as a " + as;
                if (answers[kind][as] == -2) {
                    Due.refused(call, -2, x, () -> x.says(0, taken));
                } else {
                    Due.notRefused(call, answers[kind][as], x, () -> x.says(0, taken));
                }
            }
        }
        saysLater(x);
        saysRefused(x);
    }

    private static void saysLater(AStreetByACane x) {
        x.ask(1, 1);
        int[] asFeltInSnow = {-2, 0, -2, -2, 3, -2, 0};
        for (int kind = 0; kind < 7; kind++) {
            x.show(0, kind);
            Due.due("says in snow of a " + kind + " as felt", asFeltInSnow[kind], x.says(0, 1));
        }
        x.show(0, 4);
        Due.due("says in snow of a slope as such", 3, x.says(0, 4));
        x.show(0, 0);
        Due.due("says in snow of a sign", 7, x.says(0, 0));
        x.sign(5, 0, 1, 1);
        x.show(0, 7);
        int[] left = {1, 0, 0};
        for (int steps = 0; steps < 3; steps++) {
            Due.due("says of a count behind " + steps, left[steps], x.says(0, 5));
            x.step(false);
        }
    }

    private static void saysRefused(AStreetByACane x) {
        Due.put(x, 2, 1);
        Due.refused("says(8, 0)", -1, x, () -> x.says(8, 0));
        Due.refused("says(2, 7)", -1, x, () -> x.says(2, 7));
        Due.refused("says(3, -1)", -1, x, () -> x.says(3, -1));
        Due.refused("says(2, 0) of a row", -2, x, () -> x.says(2, 0));
        Due.refused("says(3, 0) of nothing", -3, x, () -> x.says(3, 0));
    }
}
