import java.io.IOException;
import java.lang.reflect.Field;
import java.lang.reflect.Method;
import java.lang.reflect.Modifier;
import java.nio.charset.StandardCharsets;
import java.nio.file.Files;
import java.nio.file.Path;
import java.util.ArrayList;
import java.util.HashSet;
import java.util.List;
import java.util.Set;
import java.util.regex.Matcher;
import java.util.regex.Pattern;

/** The rules of LANGUAGE.md that can be read off the source and the class, run from the project's root. */
public final class LanguageTest {
    private static final Path SOURCE = Path.of("src/main/java/AStreetByACane.java");
    /** Rule and what may not stand in the source, its comments and texts left out. */
    private static final String[][] BANNED = {
        {"1", "\\bpackage\\b"}, {"1", "\\bprotected\\b"}, {"2", "->"}, {"2", "::"}, {"3", "\\b(?:float|double)\\b"},
        {"3", "\\[\\s*\\]\\s*\\[\\s*\\]\\s*\\["}, {"4", "\\w+Exact\\("}, {"5", "\\bstatic\\s*\\{"},
        {"6", "\\b(?:try|catch|finally|throw|throws)\\b"}, {"6", "\\b(?:synchronized|assert|volatile)\\b"},
        {"6", "\\b(?:hashCode|toString|equals)\\b"}, {"9", "while\\s*\\(\\s*true"}, {"9", "for\\s*\\([^;)]*;\\s*;"},
        {"10", "\"\\s*\\+|\\+\\s*\""}, {"13", "\\b(?:System\\.(?!arraycopy)|Thread|Random|Runtime)"},
        {"13", "\\bimport\\b(?! java\\.util\\.Arrays;)"},
    };

    private LanguageTest() {
    }

    public static void main(String[] args) throws IOException {
        String source = Files.readString(SOURCE, StandardCharsets.US_ASCII);
        String code = source.replaceAll("(?s)/\\*.*?\\*/", "").replaceAll("//[^\n]*", "");
        for (String[] rule : BANNED) {
            Due.due("rule " + rule[0] + ": " + rule[1] + " stands there", 0,
                Pattern.compile(rule[1]).matcher(code).find() ? 1 : 0);
        }
        methods(code);
        classes();
        Due.end();
    }

    private static void methods(String code) {
        Matcher heads = Pattern.compile("(?m)^ +(?:\\w+(?:\\[\\])* )+\\w+\\(([^)]*)\\) \\{\n").matcher(code);
        int found = 0;
        while (heads.find()) {
            found++;
            String head = heads.group().strip();
            int parameters = heads.group(1).isEmpty() ? 0 : heads.group(1).split(",").length;
            Due.due("rule 11: more than seven parameters: " + head, 0, parameters > 7 ? 1 : 0);
            Due.due("rule 11: more than sixty lines: " + head, 0, lines(code, heads.end()) > 60 ? 1 : 0);
        }
        Due.due("methods are found", 1, found > 100 ? 1 : 0);
    }

    private static int lines(String code, int from) {
        int lines = 0;
        int open = 1;
        for (int i = from; i < code.length() && open > 0; i++) {
            char c = code.charAt(i);
            open += c == '{' ? 1 : c == '}' ? -1 : 0;
            lines += c == '\n' ? 1 : 0;
        }
        return lines;
    }

    private static void classes() {
        List<Class<?>> all = new ArrayList<>(List.of(AStreetByACane.class));
        all.addAll(List.of(AStreetByACane.class.getDeclaredClasses()));
        Due.due("rule 11: more than twelve classes", 0, all.size() > 12 ? 1 : 0);
        Set<String> face = new HashSet<>();
        for (Method m : AStreetByACane.class.getDeclaredMethods()) {
            if (Modifier.isPublic(m.getModifiers())) {
                face.add(m.getName());
            }
        }
        for (Class<?> one : all) {
            for (Method m : one.getDeclaredMethods()) {
                boolean twice = !Modifier.isPublic(m.getModifiers()) && face.contains(m.getName());
                Due.due("rule 1: " + one.getName() + "." + m.getName() + " bears a public name", 0, twice ? 1 : 0);
            }
            fields(one);
        }
    }

    private static void fields(Class<?> one) {
        int count = 0;
        for (Field f : one.getDeclaredFields()) {
            boolean isStatic = Modifier.isStatic(f.getModifiers());
            count += isStatic ? 0 : 1;
            Due.due("rule 5: " + one.getName() + "." + f.getName() + " is static, not final", 0,
                isStatic && !Modifier.isFinal(f.getModifiers()) ? 1 : 0);
        }
        Due.due("rule 11: more than twenty fields: " + one.getName(), 0, count > 20 ? 1 : 0);
    }
}
