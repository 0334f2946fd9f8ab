import java.lang.reflect.InvocationTargetException;
import java.lang.reflect.Method;
import java.util.ArrayList;
import java.util.Arrays;
import java.util.List;
import java.util.Random;

/** Runs of calls on the class and on the plain model: every answer has to be the same, and nothing is thrown. */
public final class ModelTest {
    private static final int RUNS = 900;
    private static final int CALLS = 512;
    private static final String[] WORDS = {"long", "sign", "thing", "wander", "arc", "hour"};
    private static final int[] COUNTS = {1, 4, 3, 2, 1, 1};

    private final Random random;
    private final AStreetByACane x = new AStreetByACane();
    private final PlainModel model = new PlainModel();
    private final List<String> calls = new ArrayList<>();
    /** How wild the arguments are: of 100, those far off. */
    private final int wild;

    private ModelTest(long run) {
        random = new Random(run);
        wild = run % 3 == 0 ? 20 : run % 3 == 1 ? 5 : 1;
    }

    public static void main(String[] args) throws ReflectiveOperationException {
        List<Method> face = new ArrayList<>(Arrays.asList(AStreetByACane.class.getDeclaredMethods()));
        face.removeIf(m -> !java.lang.reflect.Modifier.isPublic(m.getModifiers()));
        face.sort((m, n) -> m.getName().compareTo(n.getName()));
        for (int run = 0; run < RUNS; run++) {
            if (!new ModelTest(run).run(face)) {
                System.exit(1);
            }
        }
        System.out.println("all " + RUNS + " runs are as the model has them");
    }

    private boolean run(List<Method> face) throws ReflectiveOperationException {
        boolean same = true;
        while (same && calls.size() < CALLS) {
            int chosen = random.nextInt(100);
            if (chosen < 4) {
                same = text();
            } else if (chosen < 8) {
                same = news();
            } else if (chosen < 12) {
                same = call("lost", random.nextInt(3) > 0 ? -1 : random.nextInt(12));
            } else if (chosen < 22) {
                same = call("sign", random.nextInt(7), random.nextInt(12), 1 + random.nextInt(10), someB());
            } else if (chosen < 35) {
                same = random.nextBoolean() ? call("feel", random.nextInt(8), random.nextBoolean())
                    : call("step", random.nextBoolean());
            } else {
                Method method = face.get(random.nextInt(face.size()));
                boolean rare = method.getName().equals("street") && random.nextInt(4) > 0;
                same = rare || call(method.getName(), arguments(method));
            }
            same = same && (calls.size() % 16 != 0 || look());
        }
        return same;
    }

    private int someB() {
        return random.nextInt(3) == 0 ? random.nextInt(6) : random.nextInt(256);
    }

    private Object[] arguments(Method method) {
        Class<?>[] types = method.getParameterTypes();
        Object[] arguments = new Object[types.length];
        for (int i = 0; i < types.length; i++) {
            if (types[i] == boolean.class) {
                arguments[i] = random.nextBoolean();
            } else if (types[i] == long.class) {
                arguments[i] = random.nextBoolean() ? random.nextLong() : (long) number();
            } else {
                arguments[i] = number();
            }
        }
        return arguments;
    }

    private int number() {
        if (random.nextInt(100) < wild) {
            int[] far = {Integer.MAX_VALUE, Integer.MIN_VALUE, -1, -2, 160, 161, 255, 256, 24, 25, 99, 100, 101,
                Integer.MAX_VALUE - 1, Integer.MIN_VALUE + 1, 1 << 30, random.nextInt()};
            return far[random.nextInt(far.length)];
        }
        int[] bounds = {2, 4, 8, 12, 24};
        return random.nextInt(bounds[random.nextInt(bounds.length)]) - (random.nextInt(12) == 0 ? 1 : 0);
    }

    /** A text, most often one that stands, put on a shelf and told. */
    private boolean text() throws ReflectiveOperationException {
        StringBuilder text = new StringBuilder();
        int items = 1 + random.nextInt(4);
        for (int i = 0; i < items; i++) {
            text.append(i == 0 ? "" : ";");
            item(text);
        }
        for (int i = random.nextInt(4) - 2; i > 0 && text.length() > 0; i--) {
            int at = random.nextInt(text.length());
            String letters = "0123456789 ;lsthwaigno";
            char letter = letters.charAt(random.nextInt(letters.length()));
            switch (random.nextInt(4)) {
                case 0:
                    text.setCharAt(at, letter);
                    break;
                case 1:
                    text.deleteCharAt(at);
                    break;
                case 2:
                    text.insert(at, letter);
                    break;
                default:
                    text.setLength(at);
                    break;
            }
        }
        boolean same = call("row", 0, random.nextInt(4), text.length());
        for (int i = 0; i < text.length(); i++) {
            same = same && call("set", 0, i, (long) text.charAt(i));
        }
        return same && call("town", 0) && call("fault");
    }

    private void item(StringBuilder text) {
        int word = random.nextInt(WORDS.length + 4);
        word = word >= WORDS.length ? 1 + random.nextInt(2) : word;
        text.append(WORDS[word]);
        for (int i = 0; i < COUNTS[word]; i++) {
            int number = random.nextInt(i == 0 || random.nextInt(3) > 0 ? 7 : 14);
            text.append(' ').append(random.nextInt(20) == 0 ? "0" : "").append(number);
        }
    }

    /** News on a shelf, judged and told. */
    private boolean news() throws ReflectiveOperationException {
        int n = random.nextInt(7);
        boolean same = call("row", 1, random.nextInt(4), n);
        for (int i = 0; i < n; i++) {
            int kind = random.nextInt(8);
            int told = kind < 4 ? kind % 2 : kind < 5 ? random.nextInt(40) - 5
                : (kind < 6 ? 10 : 20) + random.nextInt(4);
            same = same && call("set", 1, i, (long) told);
        }
        return same && call("judge", 1, n) && call("told", 1, n);
    }

    /** Looks at all that is rarely asked. */
    private boolean look() throws ReflectiveOperationException {
        boolean same = true;
        for (int what = -1; what < 20; what++) {
            same = same && call("status", what);
        }
        for (int c = -1; c < model.status(0); c++) {
            same = same && call("odds", c);
        }
        for (int s = 0; s < 8; s++) {
            same = same && call("holds", s);
        }
        return same;
    }

    /** No call beyond those for which the document promises anything. */
    private boolean call(String name, Object... arguments) throws ReflectiveOperationException {
        if (calls.size() >= CALLS) {
            return true;
        }
        calls.add(name + Arrays.toString(arguments));
        long due = answer(model, PlainModel.class, name, arguments);
        long got;
        try {
            got = answer(x, AStreetByACane.class, name, arguments);
        } catch (InvocationTargetException thrown) {
            System.out.println("thrown: " + thrown.getCause());
            got = ~due;
        }
        if (got != due) {
            System.out.println(String.join("\n", calls));
            System.out.println("answered " + got + ", the model has " + due);
        }
        return got == due;
    }

    private static long answer(Object on, Class<?> of, String name, Object[] arguments)
        throws ReflectiveOperationException {
        for (Method method : of.getDeclaredMethods()) {
            if (method.getName().equals(name) && method.getParameterCount() == arguments.length) {
                return ((Number) method.invoke(on, arguments)).longValue();
            }
        }
        throw new NoSuchMethodException(name);
    }
}
