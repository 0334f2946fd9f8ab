import java.math.BigInteger;
import java.util.ArrayList;
import java.util.Arrays;
import java.util.List;

/**
 * The document a second time, in other words than the class: with lists, sums without a limit and
 * all ways tried. It need not be fast nor keep to LANGUAGE.md.
 */
final class PlainModel {
    private static final String[] WORDS = {"long", "sign", "thing", "wander", "arc", "hour"};

    /** What an image keeps. */
    private static final class World {
        int cells = 12;
        int stays = 1;
        int twos = 1;
        int hour = 0;
        int snow = 0;
        int arc = 5;
        List<int[]> signs = new ArrayList<>();
        List<int[]> things = new ArrayList<>();
        List<BigInteger> odds = even(12);
        int steps = 0;
        int news = 0;
        int truth = -1;
        int seed = 1;

        World twin() {
            World w = new World();
            w.cells = cells;
            w.stays = stays;
            w.twos = twos;
            w.hour = hour;
            w.snow = snow;
            w.arc = arc;
            w.signs = new ArrayList<>(signs);
            w.things = new ArrayList<>(things);
            w.odds = new ArrayList<>(odds);
            w.steps = steps;
            w.news = news;
            w.truth = truth;
            w.seed = seed;
            return w;
        }
    }

    private World w = new World();
    private World kept = null;
    private final int[] refused = new int[8];
    private int fault = -1;
    private final List<Integer> trace = new ArrayList<>();
    /** null: nothing; Integer: a sign; long[]: a row. */
    private final Object[] shelves = new Object[8];
    private final int[] sorts = new int[8];

    private static List<BigInteger> even(int cells) {
        List<BigInteger> odds = new ArrayList<>();
        for (int i = 0; i < cells; i++) {
            odds.add(BigInteger.ONE);
        }
        return odds;
    }

    private int no(int number) {
        refused[-number]++;
        return number;
    }

    private boolean shelf(int s) {
        return s >= 0 && s < 8;
    }

    private boolean cell(int c) {
        return c >= 0 && c < w.cells;
    }

    private int rowNo(int s) {
        if (!shelf(s)) {
            return -1;
        }
        return shelves[s] instanceof long[] ? 0 : shelves[s] == null ? -3 : -2;
    }

    private long[] rowOf(int s) {
        return (long[]) shelves[s];
    }

    int row(int s, int sort, int n) {
        if (!shelf(s)) {
            return no(-1);
        }
        if (n < 0) {
            return no(-4);
        }
        if (sort < 0 || sort > 3) {
            return no(-6);
        }
        if (n > 160) {
            return no(-7);
        }
        shelves[s] = new long[n];
        sorts[s] = sort;
        return 1;
    }

    int set(int s, int i, long v) {
        if (rowNo(s) != 0) {
            return no(rowNo(s));
        }
        if (i < 0 || i >= rowOf(s).length) {
            return no(-5);
        }
        int away = 64 - (8 << sorts[s]);
        rowOf(s)[i] = v << away >> away;
        return 1;
    }

    int copy(int p, int q, int i, int j, int n) {
        if (!shelf(p) || !shelf(q)) {
            return no(-1);
        }
        if (rowNo(p) == -2 || rowNo(q) == -2 || rowNo(p) == 0 && rowNo(q) == 0 && sorts[p] != sorts[q]) {
            return no(-2);
        }
        if (rowNo(p) == -3 || rowNo(q) == -3) {
            return no(-3);
        }
        if (n < 0) {
            return no(-4);
        }
        if (i < 0 || j < 0 || (long) i + n > rowOf(p).length || (long) j + n > rowOf(q).length) {
            return no(-5);
        }
        long[] ahead = rowOf(p).clone();
        for (int k = 0; k < n; k++) {
            rowOf(q)[j + k] = ahead[i + k];
        }
        return 1;
    }

    long element(int s, int i) {
        return rowNo(s) == 0 && i >= 0 && i < rowOf(s).length ? rowOf(s)[i] : 0;
    }

    int show(int s, int sign) {
        if (!shelf(s) || sign < -1 || sign >= w.signs.size()) {
            return no(-1);
        }
        shelves[s] = sign == -1 ? null : Integer.valueOf(sign);
        return sign == -1 ? 0 : 1;
    }

    int holds(int s) {
        if (!shelf(s) || shelves[s] == null) {
            return -1;
        }
        return shelves[s] instanceof Integer ? (Integer) shelves[s] : 100 + sorts[s];
    }

    private static List<Integer> kindsOf(int kind) {
        switch (kind) {
            case 0:
                return List.of(0);
            case 3:
                return List.of(3, 2, 0);
            case 4:
                return List.of(4, 1, 0);
            case 6:
                return List.of(6, 1, 0);
            default:
                return List.of(kind, 0);
        }
    }

    int says(int s, int kind) {
        if (!shelf(s) || kind < 0 || kind > 6) {
            return no(-1);
        }
        if (shelves[s] == null) {
            return no(-3);
        }
        if (!(shelves[s] instanceof Integer)) {
            return no(-2);
        }
        int number = (Integer) shelves[s];
        int[] sign = w.signs.get(number);
        if (!kindsOf(sign[0]).contains(kind)) {
            return no(-2);
        }
        int hours = 0;
        for (int h = 0; h < 8; h++) {
            hours += sign[3] / (1 << h) % 2;
        }
        int[] answers = {sign[2], tenths(w, number, sign[1]), sign[2] / 2, hours, tenths(w, number, sign[1]),
            sign[3] > w.steps ? sign[3] - w.steps : 0, sign[3] % w.cells};
        return answers[kind];
    }

    private static int tenths(World w, int number, int cell) {
        int[] sign = w.signs.get(number);
        int a = sign[2];
        boolean here = sign[1] == cell;
        boolean beside = sign[1] == cell + 1 || sign[1] == cell - 1;
        switch (sign[0]) {
            case 0:
                return here ? a : 0;
            case 1:
                return here && w.snow == 0 ? a : 0;
            case 2:
                return here ? a : beside ? a / 2 : 0;
            case 3:
                return sign[3] / (1 << w.hour) % 2 == 0 ? 0 : here ? a : beside ? a / 2 : 0;
            case 4:
                return here ? (w.snow == 0 ? a : a / 2) : 0;
            case 5:
                return w.steps == sign[3] ? a : 0;
            default:
                return w.snow == 0 && (here || sign[3] % w.cells == cell) ? a : 0;
        }
    }

    private void dropShelves(int from) {
        for (int s = 0; s < 8; s++) {
            if (shelves[s] instanceof Integer && (Integer) shelves[s] >= from) {
                shelves[s] = null;
            }
        }
    }

    private static void know(World w, int cell) {
        w.odds = even(w.cells);
        for (int c = 0; c < w.cells && cell != -1; c++) {
            w.odds.set(c, c == cell ? BigInteger.ONE : BigInteger.ZERO);
        }
        w.news = 0;
        w.steps = 0;
    }

    private static void stretch(World w, int cells) {
        w.cells = cells;
        w.signs.clear();
        w.things.clear();
        w.truth = -1;
        know(w, -1);
    }

    int street(int v) {
        if (v < 2 || v > 24) {
            return no(-6);
        }
        int before = w.cells;
        stretch(w, v);
        dropShelves(0);
        return before;
    }

    int sign(int kind, int cell, int a, int b) {
        if (kind < 0 || kind > 6 || !cell(cell)) {
            return no(-1);
        }
        if (a < 1 || a > 10 || b < 0 || b > 255) {
            return no(-6);
        }
        if (w.signs.size() == 8) {
            return no(-7);
        }
        w.signs.add(new int[] {kind, cell, a, b});
        return w.signs.size() - 1;
    }

    int thing(int cell, boolean high, int left) {
        if (!cell(cell)) {
            return no(-1);
        }
        if (left < 1 || left > 10) {
            return no(-6);
        }
        if (w.things.size() == 8) {
            return no(-7);
        }
        w.things.add(new int[] {cell, high ? 1 : 0, left});
        return w.things.size() - 1;
    }

    int things(int s, int i, int n) {
        if (rowNo(s) != 0) {
            return no(rowNo(s));
        }
        if (n < 0) {
            return no(-4);
        }
        if (i < 0 || (long) i + n > rowOf(s).length) {
            return no(-5);
        }
        if (n % 3 != 0) {
            return no(-6);
        }
        for (int k = 0; k < n; k += 3) {
            int c = (int) rowOf(s)[i + k];
            int left = (int) rowOf(s)[i + k + 2];
            if (!cell(c) || left < 1 || left > 10 || w.things.size() == 8) {
                return k / 3;
            }
            w.things.add(new int[] {c, (int) rowOf(s)[i + k + 1] == 0 ? 0 : 1, left});
        }
        return n / 3;
    }

    int wander(int s, int t) {
        if (s < 0 || s > 10 || t < 0 || t > 10 || s + t > 10) {
            return no(-6);
        }
        int before = 100 * w.stays + w.twos;
        w.stays = s;
        w.twos = t;
        return before;
    }

    int ask(int what, int v) {
        int[] least = {0, 0, 1};
        int[] most = {7, 1, 9};
        if (what < 0 || what > 2 || v < least[what] || v > most[what]) {
            return no(-6);
        }
        int before = what == 0 ? w.hour : what == 1 ? w.snow : w.arc;
        if (what == 0) {
            w.hour = v;
        } else if (what == 1) {
            w.snow = v;
        } else {
            w.arc = v;
        }
        return before;
    }

    int signOf(int sign, int what) {
        if (sign < 0 || sign >= w.signs.size() || what < 0 || what > 3) {
            return no(-5);
        }
        return w.signs.get(sign)[what];
    }

    int thingOf(int thing, int what) {
        if (thing < 0 || thing >= w.things.size() || what < 0 || what > 2) {
            return no(-5);
        }
        return w.things.get(thing)[what];
    }

    int clear(int thing) {
        if (thing < 0 || thing >= w.things.size()) {
            return no(-1);
        }
        w.things.remove(thing);
        return w.things.size();
    }

    int town(int s) {
        if (rowNo(s) != 0) {
            return no(rowNo(s));
        }
        StringBuilder letters = new StringBuilder();
        for (long v : rowOf(s)) {
            int letter = (int) v;
            letters.append(letter >= 0 && letter < 128 ? (char) letter : '?');
        }
        World told = w.twin();
        int[] place = {0};
        int items = 0;
        boolean stretched = false;
        fault = -1;
        do {
            if (items > 0) {
                place[0]++;
            }
            stretched |= letters.substring(place[0]).startsWith("long");
            fault = item(told, letters, place);
            items++;
        } while (fault == -1 && place[0] < letters.length() && letters.charAt(place[0]) == ';');
        if (fault == -1 && place[0] < letters.length()) {
            fault = place[0];
        }
        if (fault != -1) {
            return no(-6);
        }
        w = told;
        know(w, -1);
        if (stretched) {
            dropShelves(0);
        }
        return items;
    }

    /** Reads an item from a place on: its fault, or -1 and the place behind it. */
    private static int item(World w, CharSequence text, int[] place) {
        int start = place[0];
        String word = null;
        int farthest = start;
        for (String one : WORDS) {
            int same = 0;
            while (same < one.length() && start + same < text.length()
                && text.charAt(start + same) == one.charAt(same)) {
                same++;
            }
            farthest = Math.max(farthest, start + same);
            word = same == one.length() ? one : word;
        }
        if (word == null) {
            return farthest;
        }
        if (word.equals("sign") && w.signs.size() == 8 || word.equals("thing") && w.things.size() == 8) {
            return start;
        }
        place[0] = farthest;
        int[][] bounds = bounds(word, w.cells);
        int[] numbers = new int[bounds.length];
        for (int i = 0; i < bounds.length; i++) {
            if (word.equals("wander") && i == 1) {
                bounds[1][1] = 10 - numbers[0];
            }
            int bad = number(text, place, bounds[i]);
            if (bad != -1) {
                return bad;
            }
            numbers[i] = bounds[i][2];
        }
        put(w, word, numbers);
        return -1;
    }

    private static int[][] bounds(String word, int cells) {
        switch (word) {
            case "long":
                return new int[][] {{2, 24, 0}};
            case "sign":
                return new int[][] {{0, 6, 0}, {0, cells - 1, 0}, {1, 10, 0}, {0, 255, 0}};
            case "thing":
                return new int[][] {{0, cells - 1, 0}, {0, 1, 0}, {1, 10, 0}};
            case "wander":
                return new int[][] {{0, 10, 0}, {0, 10, 0}};
            case "arc":
                return new int[][] {{1, 9, 0}};
            default:
                return new int[][] {{0, 7, 0}};
        }
    }

    private static int number(CharSequence text, int[] place, int[] bound) {
        if (place[0] == text.length() || text.charAt(place[0]) != ' ') {
            return place[0];
        }
        int first = place[0] + 1;
        int end = first;
        while (end < text.length() && end < first + 3 && "0123456789".indexOf(text.charAt(end)) >= 0) {
            end++;
        }
        if (end == first) {
            return first;
        }
        bound[2] = Integer.parseInt(text.subSequence(first, end).toString());
        place[0] = end;
        return bound[2] < bound[0] || bound[2] > bound[1] ? first : -1;
    }

    private static void put(World w, String word, int[] n) {
        switch (word) {
            case "long":
                stretch(w, n[0]);
                break;
            case "sign":
                w.signs.add(n);
                break;
            case "thing":
                w.things.add(n);
                break;
            case "wander":
                w.stays = n[0];
                w.twos = n[1];
                break;
            case "arc":
                w.arc = n[0];
                break;
            default:
                w.hour = n[0];
                break;
        }
    }

    int fault() {
        return fault;
    }

    int lost(int cell) {
        if (cell != -1 && !cell(cell)) {
            return no(-1);
        }
        int before = w.news;
        know(w, cell);
        return before;
    }

    private static BigInteger sum(List<BigInteger> odds) {
        return odds.stream().reduce(BigInteger.ZERO, BigInteger::add);
    }

    private static BigInteger greatest(List<BigInteger> odds) {
        return odds.stream().reduce(BigInteger.ZERO, BigInteger::max);
    }

    long odds(int cell) {
        if (cell == -1) {
            return sum(w.odds).longValueExact();
        }
        return cell(cell) ? w.odds.get(cell).longValueExact() : no(-1);
    }

    int strength(int sign, int cell) {
        return sign < 0 || sign >= w.signs.size() || !cell(cell) ? no(-1) : tenths(w, sign, cell);
    }

    private static void lessen(World w) {
        BigInteger common = w.odds.stream().reduce(BigInteger.ZERO, BigInteger::gcd);
        w.odds.replaceAll(o -> o.divide(common));
        w.news++;
    }

    private static void walk(World w, boolean back) {
        BigInteger[] then = new BigInteger[w.cells];
        Arrays.fill(then, BigInteger.ZERO);
        for (int c = 0; c < w.cells; c++) {
            for (int tenth = 0; tenth < 10; tenth++) {
                int by = tenth < w.stays ? 0 : tenth < w.stays + w.twos ? 2 : 1;
                int to = Math.min(w.cells - 1, Math.max(0, back ? c - by : c + by));
                then[to] = then[to].add(w.odds.get(c));
            }
        }
        w.odds = new ArrayList<>(List.of(then));
        w.steps++;
        lessen(w);
    }

    /** The odds behind an answer, not made smaller. */
    private static List<BigInteger> behind(World w, List<BigInteger> odds, int sign, boolean is) {
        List<BigInteger> then = new ArrayList<>();
        for (int c = 0; c < w.cells; c++) {
            int t = tenths(w, sign, c);
            then.add(odds.get(c).multiply(BigInteger.valueOf(is ? t : 10 - t)));
        }
        return then;
    }

    private static boolean hear(World w, int sign, boolean is) {
        List<BigInteger> then = behind(w, w.odds, sign, is);
        if (sum(then).signum() == 0) {
            return false;
        }
        w.odds = then;
        lessen(w);
        return true;
    }

    int step(boolean back) {
        if (w.news == 16) {
            return no(-7);
        }
        walk(w, back);
        return w.news;
    }

    int feel(int sign, boolean is) {
        if (sign < 0 || sign >= w.signs.size()) {
            return no(-1);
        }
        World then = w.twin();
        if (!hear(then, sign, is)) {
            return no(-6);
        }
        if (w.news == 16) {
            return no(-7);
        }
        w = then;
        return w.news;
    }

    private static int surest(World w) {
        return w.odds.indexOf(greatest(w.odds));
    }

    int where() {
        return surest(w);
    }

    int isLost() {
        return greatest(w.odds).shiftLeft(1).compareTo(sum(w.odds)) < 0 ? 1 : 0;
    }

    private int newsNo(int s, int n) {
        if (rowNo(s) != 0) {
            return rowNo(s);
        }
        return n < 0 ? -4 : n > rowOf(s).length ? -5 : n > 16 ? -6 : 0;
    }

    private int halt(World then, int s, int n) {
        for (int i = 0; i < n; i++) {
            long told = (int) rowOf(s)[i];
            boolean goesOn = false;
            if (then.news < 16 && (told == 0 || told == 1)) {
                walk(then, told == 1);
                goesOn = true;
            } else if (then.news < 16 && told >= 10 && told < 10 + then.signs.size()) {
                goesOn = hear(then, (int) told - 10, true);
            } else if (then.news < 16 && told >= 20 && told < 20 + then.signs.size()) {
                goesOn = hear(then, (int) told - 20, false);
            }
            if (!goesOn) {
                return i;
            }
        }
        return -1;
    }

    int judge(int s, int n) {
        return newsNo(s, n) != 0 ? no(newsNo(s, n)) : halt(w.twin(), s, n);
    }

    int told(int s, int n) {
        if (newsNo(s, n) != 0) {
            return no(newsNo(s, n));
        }
        World then = w.twin();
        return halt(then, s, n) != -1 ? no(-6) : surest(then);
    }

    /** WORTH of signs over odds: every answer of all its answers, each a number of bits. */
    private BigInteger worthOf(List<BigInteger> odds, List<Integer> signs) {
        BigInteger worth = BigInteger.ZERO;
        for (int answer = 0; answer < 1 << signs.size(); answer++) {
            List<BigInteger> then = odds;
            for (int i = 0; i < signs.size(); i++) {
                then = behind(w, then, signs.get(i), (answer >> i & 1) == 1);
            }
            worth = worth.add(greatest(then));
        }
        return worth;
    }

    private static List<Integer> members(int bits) {
        List<Integer> signs = new ArrayList<>();
        for (int i = 0; i < 31; i++) {
            if ((bits >> i & 1) == 1) {
                signs.add(i);
            }
        }
        return signs;
    }

    long worth(int signs) {
        if (signs < 0 || signs >= 1 << w.signs.size()) {
            return no(-1);
        }
        if (w.news + members(signs).size() > 17) {
            return no(-7);
        }
        return worthOf(w.odds, members(signs)).longValueExact();
    }

    int next() {
        if (w.signs.isEmpty()) {
            return no(-5);
        }
        List<BigInteger> worths = new ArrayList<>();
        for (int i = 0; i < w.signs.size(); i++) {
            worths.add(worthOf(w.odds, List.of(i)));
        }
        return worths.indexOf(greatest(worths));
    }

    int ahead() {
        if (w.signs.isEmpty()) {
            return no(-5);
        }
        if (w.news > 15) {
            return no(-7);
        }
        List<BigInteger> worths = new ArrayList<>();
        for (int i = 0; i < w.signs.size(); i++) {
            BigInteger worth = BigInteger.ZERO;
            for (boolean is : new boolean[] {true, false}) {
                List<BigInteger> then = behind(w, w.odds, i, is);
                BigInteger best = greatest(then).multiply(BigInteger.TEN);
                for (int j = 0; j < w.signs.size(); j++) {
                    best = j == i ? best : best.max(worthOf(then, List.of(j)));
                }
                worth = worth.add(best);
            }
            worths.add(worth);
        }
        return worths.indexOf(greatest(worths));
    }

    int least(int t) {
        if (t < 0 || t > 10) {
            return no(-6) - 10;
        }
        if (w.news > 9) {
            return no(-7) - 10;
        }
        int best = -1;
        for (int bits = 0; bits < 1 << w.signs.size(); bits++) {
            List<Integer> signs = members(bits);
            if (best != -1 && members(best).size() <= signs.size()) {
                continue;
            }
            BigInteger all = sum(w.odds).multiply(BigInteger.TEN.pow(signs.size())).multiply(BigInteger.valueOf(t));
            if (worthOf(w.odds, signs).multiply(BigInteger.TEN).compareTo(all) >= 0) {
                best = bits;
            }
        }
        return best;
    }

    private List<Integer> onWalk(int from, int to) {
        List<Integer> on = new ArrayList<>();
        for (int i = 0; i < w.things.size(); i++) {
            int c = w.things.get(i)[0];
            if (c >= from && c <= to || c <= from && c >= to) {
                on.add(i);
            }
        }
        return on;
    }

    private long safeOf(List<Integer> on) {
        long safe = 1;
        for (int i : on) {
            int[] thing = w.things.get(i);
            safe *= 100 - (thing[1] == 1 ? 10 : 10 - w.arc) * thing[2];
        }
        return safe;
    }

    private int firstOf(List<Integer> on) {
        int best = -1;
        long most = -1;
        for (Integer i : on) {
            List<Integer> rest = new ArrayList<>(on);
            rest.remove(i);
            if (safeOf(rest) > most) {
                most = safeOf(rest);
                best = i;
            }
        }
        return best;
    }

    long safe(int from, int to) {
        return cell(from) && cell(to) ? safeOf(onWalk(from, to)) : no(-1);
    }

    int first(int from, int to) {
        return order(from, to, 0);
    }

    int order(int from, int to, int i) {
        if (!cell(from) || !cell(to)) {
            return no(-1);
        }
        List<Integer> on = onWalk(from, to);
        if (i < 0 || i >= on.size()) {
            return no(-5);
        }
        for (int k = 0; k < i; k++) {
            on.remove(Integer.valueOf(firstOf(on)));
        }
        return firstOf(on);
    }

    int over(int road, int l, int r, int k) {
        if (road < 1 || road > 9 || l < 0 || l > 10 || r < 0 || r > 10 || l + r > 10 || k < -road || k > road) {
            return no(-6);
        }
        return ways(road, l, r, k);
    }

    private static int ways(int road, int l, int r, int k) {
        if (road == 0) {
            return k == 0 ? 1 : 0;
        }
        return l * ways(road - 1, l, r, k + 1) + r * ways(road - 1, l, r, k - 1)
            + (10 - l - r) * ways(road - 1, l, r, k);
    }

    private static int known(int n, int m) {
        int unknown = 100;
        for (int i = 0; i < n; i++) {
            unknown = (int) Math.floor(unknown * 0.75);
        }
        int known = 100 - unknown;
        for (int i = 0; i < m; i++) {
            known = known - (known % 10 == 0 ? known / 10 : known / 10 + 1);
        }
        return known;
    }

    int learnt(int n, int m) {
        return n < 0 || n > 99 || m < 0 || m > 99 ? no(-6) : known(n, m);
    }

    int goings(int p, int m) {
        if (p < 0 || p > 100 || m < 0 || m > 99) {
            return no(-6) - 10;
        }
        int n = 0;
        while (n < 100 && known(n, m) < p) {
            n++;
        }
        return n == 100 ? -1 : n;
    }

    int begin(int cell) {
        if (!cell(cell)) {
            return no(-1);
        }
        int before = w.truth;
        w.truth = cell;
        return before;
    }

    private static int draw(World w) {
        w.seed = (int) (w.seed * 1103515245L + 12345L);
        return (int) ((w.seed & 0xffffffffL) / 65536 % 10);
    }

    int goes(boolean back) {
        if (w.truth == -1) {
            return no(-6);
        }
        if (w.news == 16) {
            return no(-7);
        }
        int drawn = draw(w);
        int by = drawn < w.stays ? 0 : drawn < w.stays + w.twos ? 2 : 1;
        w.truth = Math.max(0, Math.min(w.cells - 1, back ? w.truth - by : w.truth + by));
        walk(w, back);
        return by;
    }

    int looks(int sign) {
        if (sign < 0 || sign >= w.signs.size()) {
            return no(-1);
        }
        if (w.truth == -1) {
            return no(-6);
        }
        World then = w.twin();
        boolean is = draw(then) < tenths(w, sign, w.truth);
        if (!hear(then, sign, is)) {
            return no(-6);
        }
        if (w.news == 16) {
            return no(-7);
        }
        w = then;
        return is ? 1 : 0;
    }

    int right() {
        return w.truth == -1 ? no(-6) : w.truth == surest(w) ? 1 : 0;
    }

    int seed(int v) {
        int before = w.seed;
        w.seed = v;
        return before;
    }

    /** The bodies by Java's own super, each noting that it began. */
    private class Plain {
        final int m;
        final int k;

        Plain(int m, int k) {
            this.m = m;
            this.k = k;
        }

        int feels(int x) {
            trace.add(10);
            return x + m;
        }

        int teaches(int x) {
            trace.add(11);
            return feels(x) * 2;
        }

        int fades(int x) {
            trace.add(12);
            return teaches(x) ^ feels(x - k);
        }
    }

    private class Felt extends Plain {
        Felt(int m, int k) {
            super(m, k);
        }

        @Override
        int feels(int x) {
            trace.add(20);
            return super.feels(x) + k;
        }
    }

    private class Slope extends Felt {
        Slope(int m, int k) {
            super(m, k);
        }

        @Override
        int teaches(int x) {
            trace.add(30);
            return super.teaches(x) * 3;
        }
    }

    private class FalseOne extends Felt {
        FalseOne(int m, int k) {
            super(m, k);
        }

        @Override
        int teaches(int x) {
            trace.add(40);
            return super.teaches(x + 1);
        }

        @Override
        int fades(int x) {
            trace.add(41);
            return super.fades(x) - m;
        }
    }

    private class Sound extends Plain {
        Sound(int m, int k) {
            super(m, k);
        }

        @Override
        int fades(int x) {
            trace.add(50);
            return -super.fades(x);
        }
    }

    private class Smelt extends Sound {
        Smelt(int m, int k) {
            super(m, k);
        }

        @Override
        int fades(int x) {
            trace.add(60);
            return super.fades(x) ^ 5;
        }
    }

    private class Count extends Plain {
        Count(int m, int k) {
            super(m, k);
        }

        @Override
        int feels(int x) {
            trace.add(70);
            return super.feels(x) * 2;
        }

        @Override
        int teaches(int x) {
            trace.add(71);
            return super.teaches(x - k);
        }
    }

    int act(int sign, int act, int x) {
        trace.clear();
        if (sign < 0 || sign >= w.signs.size() || act < 0 || act > 2) {
            return 0;
        }
        int k = w.signs.get(sign)[3];
        Plain[] ones = {new Plain(sign, k), new Felt(sign, k), new Sound(sign, k), new Smelt(sign, k),
            new Slope(sign, k), new Count(sign, k), new FalseOne(sign, k)};
        Plain one = ones[w.signs.get(sign)[0]];
        return act == 0 ? one.feels(x) : act == 1 ? one.teaches(x) : one.fades(x);
    }

    int trace(int i) {
        return i >= 0 && i < trace.size() && i < 20 ? trace.get(i) : -1;
    }

    int image() {
        kept = w.twin();
        return w.signs.size();
    }

    int restore() {
        if (kept == null) {
            return no(-6);
        }
        w = kept.twin();
        dropShelves(w.signs.size());
        return w.signs.size();
    }

    int status(int what) {
        if (what >= 11 && what <= 17) {
            return refused[what - 10];
        }
        int[] told = {w.cells, w.signs.size(), w.things.size(), w.news, w.steps, w.hour, w.snow, w.arc,
            trace.size(), w.seed};
        return what >= 0 && what < told.length ? told[what] : -1;
    }
}
