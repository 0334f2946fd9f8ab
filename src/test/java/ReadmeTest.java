import java.io.ByteArrayOutputStream;
import java.io.IOException;
import java.io.PrintStream;
import java.lang.reflect.Method;
import java.lang.reflect.Modifier;
import java.net.URL;
import java.net.URLClassLoader;
import java.nio.charset.StandardCharsets;
import java.nio.file.DirectoryStream;
import java.nio.file.Files;
import java.nio.file.Path;
import java.util.ArrayList;
import java.util.List;
import java.util.regex.MatchResult;
import java.util.regex.Matcher;
import java.util.regex.Pattern;
import javax.tools.ToolProvider;

/** What README.md says is so: its run, its refusals, its lists of calls and of tests; run from the project's root. */
public final class ReadmeTest {
    private static final Path AT = Path.of("build/readme");
    private static final Pattern PRINTED = Pattern.compile("System\\.out\\.println\\((.*)\\); *// (-?\\d+): ");
    private static final Pattern CALL = Pattern.compile("(ten times )?`(\\w+)\\(([^)]*)\\)`");

    private ReadmeTest() {
    }

    public static void main(String[] args) throws Exception {
        String readme = Files.readString(Path.of("README.md"), StandardCharsets.US_ASCII);
        theRun(readme);
        theRefusals(readme);
        callsThatRefuseNothing(readme);
        everyCallIsNamed(readme);
        everyTestIsNamed(readme);
        oneCommand(readme);
        Due.end();
    }

    // ---- the run, compiled by README.md's own command and run as it stands

    private static void theRun(String readme) throws Exception {
        String program = first("(?s)```java\n(.*?)```", readme);
        String name = first("public final class (\\w+)", program);
        Files.createDirectories(AT);
        Files.writeString(AT.resolve(name + ".java"), program, StandardCharsets.US_ASCII);
        Due.due("README: its run is compiled", 0, compiled(first("(?m)^    javac (.*)$", readme), name + ".java"));
        Due.same("README: how its run is started", "-cp out " + name, first("(?m)^    java (.*)$", readme));
        String[] printed = printedBy(name).split("\n");
        List<MatchResult> said = PRINTED.matcher(program).results().toList();
        Due.due("README: lines of its run that say what they print", program.split("println").length - 1, said.size());
        Due.due("README: lines that its run prints", said.size(), printed.length);
        for (int i = 0; i < said.size() && i < printed.length; i++) {
            Due.same("README: " + said.get(i).group(1), said.get(i).group(2), printed[i]);
        }
    }

    private static int compiled(String command, String file) {
        String[] words = command.split(" ");
        for (int i = 0; i < words.length; i++) {
            words[i] = words[i].equals("out") || words[i].equals(file) ? AT.resolve(words[i]).toString() : words[i];
        }
        return ToolProvider.getSystemJavaCompiler().run(null, null, null, words);
    }

    private static String printedBy(String name) throws Exception {
        PrintStream before = System.out;
        ByteArrayOutputStream printed = new ByteArrayOutputStream();
        URL[] out = {AT.resolve("out").toUri().toURL()};
        try (URLClassLoader classes = new URLClassLoader(out, ClassLoader.getPlatformClassLoader())) {
            Method main = classes.loadClass(name).getMethod("main", String[].class);
            System.setOut(new PrintStream(printed, true));
            main.invoke(null, (Object) new String[0]);
        } finally {
            System.setOut(before);
        }
        return printed.toString().replace("\r", "");
    }

    // ---- the refusals, each by the calls that stand in its row

    private static void theRefusals(String readme) throws Exception {
        Matcher row = Pattern.compile("(?m)^\\| (-\\d+) \\| ([A-Z]+) \\| (.*) \\| (.*) \\|$").matcher(readme);
        int rows = 0;
        while (row.find()) {
            rows++;
            long answer = Long.parseLong(row.group(1));
            long counted = answer < -10 ? answer + 10 : answer;
            String word = counted + " " + row.group(2) + ":";
            Due.same("the document has " + word, "true", String.valueOf(Document.part(0).contains(word)));
            AStreetByACane x = new AStreetByACane();
            Due.due("README: " + row.group(4), answer, lastOf(x, row.group(4)));
            for (int number = 1; number <= 7; number++) {
                Due.due("README: " + row.group(4) + ": refused with -" + number, number == -counted ? 1 : 0,
                    x.status(10 + number));
            }
        }
        Due.due("README: refusals", 9, rows);
    }

    /** What the last of the calls in a text answers, all of them asked one behind the other. */
    private static long lastOf(AStreetByACane x, String calls) throws Exception {
        long answer = 0;
        Matcher call = CALL.matcher(calls);
        while (call.find()) {
            for (int times = call.group(1) == null ? 1 : 10; times > 0; times--) {
                answer = answerOf(x, call.group(2), call.group(3));
            }
        }
        return answer;
    }

    private static long answerOf(AStreetByACane x, String name, String given) throws Exception {
        Method method = methodNamed(name);
        String[] words = given.isEmpty() ? new String[0] : given.split(", ");
        Object[] numbers = new Object[words.length];
        for (int i = 0; i < words.length; i++) {
            Class<?> type = method.getParameterTypes()[i];
            numbers[i] = type == boolean.class ? (Object) Boolean.valueOf(words[i])
                : type == long.class ? (Object) Long.valueOf(words[i]) : (Object) Integer.valueOf(words[i]);
        }
        return ((Number) method.invoke(x, numbers)).longValue();
    }

    /** Given the most unlikely numbers, each call is refused but for those that README.md names. */
    private static void callsThatRefuseNothing(String readme) throws Exception {
        String named = first("(?s)These calls refuse nothing: (.*?)\\.", readme);
        for (Method method : face()) {
            boolean refused = false;
            for (int number : new int[] {Integer.MIN_VALUE, -1, 0, 24, 99, Integer.MAX_VALUE}) {
                refused |= isRefused(method, number);
            }
            Due.same("README: refuses nothing: " + method.getName(), String.valueOf(!refused),
                String.valueOf(named.contains("`" + method.getName() + "`")));
        }
    }

    private static boolean isRefused(Method method, int number) throws Exception {
        AStreetByACane x = new AStreetByACane();
        for (int step = 0; step < 16; step++) {
            x.step(true);
        }
        Object[] given = new Object[method.getParameterCount()];
        for (int i = 0; i < given.length; i++) {
            Class<?> type = method.getParameterTypes()[i];
            given[i] = type == boolean.class ? (Object) (number == 0) : type == long.class ? (Object) (long) number
                : (Object) number;
        }
        method.invoke(x, given);
        int refusals = 0;
        for (int what = 11; what <= 17; what++) {
            refusals += x.status(what);
        }
        return refusals != 0;
    }

    // ---- its lists

    private static void everyCallIsNamed(String readme) {
        String calls = first("(?s)\\| calls \\| what for \\|\n(.*?)\n\n", readme);
        for (Method method : face()) {
            Due.due("README: rows that name the call " + method.getName(), 1, count("`" + method.getName() + "`", calls));
        }
    }

    private static void everyTestIsNamed(String readme) throws IOException {
        int tests = 0;
        try (DirectoryStream<Path> files = Files.newDirectoryStream(Path.of("src/test/java"), "*Test.java")) {
            for (Path file : files) {
                tests++;
                String name = file.getFileName().toString().replace(".java", "");
                Due.due("README: rows for " + name, 1, count("\n| `" + name + "` | ", readme));
            }
        }
        Due.due("README: rows for tests", tests, count("Test` | ", readme));
    }

    private static void oneCommand(String readme) {
        Path command = Path.of(first("(?s)## Its tests\n\n    (\\S+)\n\n", readme));
        Due.same("README: the one command is a file that can be run", "true", String.valueOf(Files.isExecutable(command)));
    }

    // ---- helpers

    private static List<Method> face() {
        List<Method> face = new ArrayList<>();
        for (Method method : AStreetByACane.class.getDeclaredMethods()) {
            if (Modifier.isPublic(method.getModifiers())) {
                face.add(method);
            }
        }
        return face;
    }

    private static Method methodNamed(String name) {
        return face().stream().filter(m -> m.getName().equals(name)).findFirst()
            .orElseThrow(() -> new IllegalStateException("no call is named " + name));
    }

    private static String first(String pattern, String text) {
        Matcher found = Pattern.compile(pattern).matcher(text);
        if (!found.find()) {
            throw new IllegalStateException("README.md has nothing like " + pattern);
        }
        return found.group(1);
    }

    private static int count(String part, String text) {
        return text.split(Pattern.quote(part), -1).length - 1;
    }
}
