import java.lang.reflect.InvocationTargetException;
import java.lang.reflect.Method;
import java.util.Arrays;
import java.util.Comparator;
import java.util.function.Consumer;
import java.util.function.Supplier;
import java.util.regex.Matcher;
import java.util.regex.Pattern;

/**
 * What the tests of edges share. Each of them is a method named after its promise and its sentence
 * (promise02_minus7_nAbove160) that quotes this sentence in @Says.
 */
abstract class Edge {
    static final Pattern NAME = Pattern.compile("promise(\\d\\d)_\\w+");
    static final int MIN = Integer.MIN_VALUE;
    static final int MAX = Integer.MAX_VALUE;

    private static String test = "";
    private static int check = 0;

    interface Call {
        long on(AStreetByACane x);
    }

    // ---- how tests run

    static void run(Class<?> tests) {
        for (Method method : testsOf(tests)) {
            test = method.getName();
            check = 0;
            findSentences(method);
            try {
                method.setAccessible(true);
                method.invoke(null);
            } catch (InvocationTargetException e) {
                Due.same(test, "no exception", String.valueOf(e.getCause()));
            } catch (IllegalAccessException e) {
                Due.same(test, "a test that can be run", e.toString());
            }
            Due.same(test + " looks at something", "true", String.valueOf(check > 0));
        }
        Due.end();
    }

    static Method[] testsOf(Class<?> tests) {
        return Arrays.stream(tests.getDeclaredMethods())
            .filter(m -> m.isAnnotationPresent(Says.class))
            .sorted(Comparator.comparing(Method::getName))
            .toArray(Method[]::new);
    }

    static int promiseOf(Method method) {
        Matcher name = NAME.matcher(method.getName());
        return name.matches() ? Integer.parseInt(name.group(1)) : 0;
    }

    /** A sentence is looked for under the promise first, then above all promises. */
    private static void findSentences(Method method) {
        int promise = promiseOf(method);
        Due.same(test + " is named after a promise", "true", String.valueOf(promise > 0));
        for (String sentence : method.getAnnotation(Says.class).value()) {
            boolean found = Document.part(promise).contains(sentence) || Document.part(0).contains(sentence);
            Due.same(test + ": \"" + sentence + "\"", "found", found ? "found" : "not in the document");
        }
    }

    // ---- what they look at

    static void is(long due, long got) {
        check++;
        Due.due(test + ", check " + check, due, got);
    }

    static void isSo(boolean so) {
        is(1, so ? 1 : 0);
    }

    /** An object made ready for a call, the same each time. */
    static Supplier<AStreetByACane> with(Consumer<AStreetByACane> readied) {
        return () -> {
            AStreetByACane x = new AStreetByACane();
            readied.accept(x);
            return x;
        };
    }

    static Supplier<AStreetByACane> fresh() {
        return AStreetByACane::new;
    }

    /** A refusal: its number, counted once, and all else as on an object that was never asked. */
    static void refuses(int number, Supplier<AStreetByACane> making, Call call) {
        changesNothing(number, number, making, call);
    }

    static void refusesAs(int answer, int counted, Supplier<AStreetByACane> making, Call call) {
        changesNothing(answer, counted, making, call);
    }

    /** An answer that is no refusal, and all as on an object that was never asked. */
    static void tells(long answer, Supplier<AStreetByACane> making, Call call) {
        changesNothing(answer, 0, making, call);
    }

    /** An answer that is no refusal; what the call changes is looked at elsewhere. */
    static void does(long answer, Supplier<AStreetByACane> making, Call call) {
        AStreetByACane x = making.get();
        long[] before = refusals(x);
        is(answer, call.on(x));
        counted(0, before, x);
    }

    private static void changesNothing(long answer, int counted, Supplier<AStreetByACane> making, Call call) {
        AStreetByACane asked = making.get();
        long[] before = refusals(asked);
        is(answer, call.on(asked));
        counted(counted, before, asked);
        check++;
        Due.same(test + ", check " + check + ": nothing changes", everythingOf(making), everythingOf(behind(making, call)));
    }

    /** The same object, behind a call. */
    static Supplier<AStreetByACane> behind(Supplier<AStreetByACane> making, Call call) {
        return () -> {
            AStreetByACane x = making.get();
            call.on(x);
            return x;
        };
    }

    private static void counted(int number, long[] before, AStreetByACane x) {
        long[] then = refusals(x);
        for (int i = 1; i <= 7; i++) {
            is(before[i] + (i == -number ? 1 : 0), then[i]);
        }
    }

    private static long[] refusals(AStreetByACane x) {
        long[] counts = new long[8];
        for (int i = 1; i <= 7; i++) {
            counts[i] = x.status(10 + i);
        }
        return counts;
    }

    /**
     * All that such an object answers from now on, its image too. Several of them are looked at, as the document
     * promises 512 calls of each.
     */
    static String everythingOf(Supplier<AStreetByACane> making) {
        StringBuilder all = new StringBuilder();
        AStreetByACane x = making.get();
        seeState(x, all);
        all.append(" image: ").append(x.restore());
        seeState(x, all);
        AStreetByACane shelves = making.get();
        for (int s = 0; s < 8; s++) {
            if (shelves.holds(s) >= 100) {
                Sight.elements(making.get(), s, all);
            }
        }
        return all.toString();
    }

    private static void seeState(AStreetByACane x, StringBuilder all) {
        all.append(Sight.of(x));
        all.append(" where=").append(x.where());
        all.append(" wander=").append(x.wander(1, 1));
        all.append(" truth=").append(x.begin(0));
    }

    // ---- objects made ready

    static AStreetByACane ready(Consumer<AStreetByACane> readied) {
        return with(readied).get();
    }

    /** So many more news, none of which changes what he knows. */
    static void hear(AStreetByACane x, int news) {
        x.wander(10, 0);
        for (int i = 0; i < news; i++) {
            x.step(false);
        }
        x.wander(1, 1);
    }

    static void put(AStreetByACane x, int s, int... numbers) {
        Due.put(x, s, numbers);
    }

    static void put(AStreetByACane x, int s, String text) {
        Due.put(x, s, text);
    }

    static void putLongs(AStreetByACane x, int s, long... numbers) {
        x.row(s, 3, numbers.length);
        for (int i = 0; i < numbers.length; i++) {
            x.set(s, i, numbers[i]);
        }
    }

    /** A SHELF with a SIGN on it, which is the latest one then. */
    static void putSign(AStreetByACane x, int s) {
        x.show(s, x.sign(0, 0, 1, 0));
    }

    static void manySigns(AStreetByACane x, int n) {
        for (int i = 0; i < n; i++) {
            x.sign(0, 0, 5, 0);
        }
    }

    static void manyThings(AStreetByACane x, int n) {
        for (int i = 0; i < n; i++) {
            x.thing(0, true, 1);
        }
    }

    static void odds(AStreetByACane x, long... due) {
        long all = 0;
        for (int c = 0; c < due.length; c++) {
            is(due[c], x.odds(c));
            all += due[c];
        }
        is(due.length, x.status(0));
        is(all, x.odds(-1));
    }

    static int seedBehind(int seed) {
        return (int) (seed * 1103515245L + 12345L);
    }

    /** A SEED whose DRAW below ten is d, and that becomes one with a sign or without by it. */
    static int seedThatDraws(int d, boolean signed) {
        int seed = 0;
        while (seedBehind(seed) < 0 != signed || (seedBehind(seed) >> 16 & 0xffff) % 10 != d) {
            seed++;
        }
        return seed;
    }
}
