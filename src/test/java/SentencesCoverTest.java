import java.lang.reflect.Method;
import java.util.ArrayList;
import java.util.List;
import java.util.regex.Matcher;
import java.util.regex.Pattern;

/** That no words of the document, from its terms to its last promise, lack a test that quotes them. */
public final class SentencesCoverTest {
    private static final Class<?>[] TESTS = {ShelvesEdgesTest.class, StreetEdgesTest.class, TownEdgesTest.class,
        OddsEdgesTest.class, OutlookEdgesTest.class, TruthEdgesTest.class, ActsEdgesTest.class, StreetSentencesTest.class,
        OddsSentencesTest.class, OutlookSentencesTest.class, TruthSentencesTest.class};
    /** Headings say nothing that can be held; a promise's own begins with its name and the call. */
    private static final Pattern HEADINGS = Pattern.compile("==== \\d\\. [A-Z][A-Z' ]+[A-Z]|```text|```|Details\\.");
    private static final Pattern PROMISE_HEADING = Pattern.compile("^[A-Za-z ]+`[^`]*`:");

    private SentencesCoverTest() {
    }

    public static void main(String[] args) {
        for (int promise = 0; promise <= Document.PROMISES; promise++) {
            String part = Document.part(promise);
            Due.due("part " + promise + " of the document says something", 1, part.isEmpty() ? 0 : 1);
            Due.same("words of part " + promise + " that no test quotes", "", unquoted(promise, part));
        }
        Due.end();
    }

    private static String unquoted(int promise, String part) {
        char[] left = part.toCharArray();
        if (promise == 0) {
            wipe(left, 0, part.indexOf("==== 1."));
            wipeAll(left, HEADINGS.matcher(part));
        } else {
            wipeAll(left, PROMISE_HEADING.matcher(part));
        }
        for (String quote : quotesFor(promise)) {
            wipeAll(left, Pattern.compile(Pattern.quote(quote)).matcher(part));
        }
        // Numbers of refusals are EdgesCoverTest's.
        String words = new String(left).replaceAll("-\\d+", "");
        return words.replaceAll("[^\\w]+", " ").trim();
    }

    private static void wipeAll(char[] left, Matcher found) {
        while (found.find()) {
            wipe(left, found.start(), found.end());
        }
    }

    private static void wipe(char[] left, int from, int to) {
        for (int i = from; i < to; i++) {
            left[i] = ' ';
        }
    }

    /** What stands above the promises can be quoted by any of them. */
    private static List<String> quotesFor(int promise) {
        List<String> quotes = new ArrayList<>();
        for (Class<?> tests : TESTS) {
            for (Method method : Edge.testsOf(tests)) {
                if (promise == 0 || Edge.promiseOf(method) == promise) {
                    quotes.addAll(List.of(method.getAnnotation(Says.class).value()));
                }
            }
        }
        return quotes;
    }
}
