import java.lang.reflect.Method;
import java.util.ArrayList;
import java.util.List;
import java.util.Set;
import java.util.TreeSet;
import java.util.regex.Matcher;
import java.util.regex.Pattern;

/** That no promise, no refusal that a promise names, and no two of them that can fit at once lack a test of edges. */
public final class EdgesCoverTest {
    private static final Class<?>[] TESTS = {ShelvesEdgesTest.class, StreetEdgesTest.class, TownEdgesTest.class,
        OddsEdgesTest.class, OutlookEdgesTest.class, TruthEdgesTest.class, ActsEdgesTest.class};

    /**
     * For each promise of several refusals: which come before which where both can fit. Missing are those that
     * can't: one SHELF holds no SIGN and NOTHING, a size is not below 0 and above 160.
     */
    private static final String[] PAIRS = {
        "2: 1<4 1<6 1<7 4<6 6<7",
        "3: 1<5 2<5 3<5",
        "4: 1<2 1<3 1<4 1<5 2<3 2<4 2<5 3<4 3<5 4<5",
        "8: 1<2 1<3",
        "10: 1<6 1<7 6<7",
        "11: 1<6 1<7 6<7",
        "12: 1<4 1<5 1<6 2<4 2<5 2<6 3<4 3<5 3<6 4<5 4<6 5<6",
        "24: 1<7 6<7",
        "27: 1<4 1<5 1<6 2<4 2<5 2<6 3<4 3<5 3<6 5<6",
        "28: 1<4 1<5 1<6 2<4 2<5 2<6 3<4 3<5 3<6 5<6",
        "29: 1<7",
        "31: 5<7",
        "32: 16<17",
        "34: 1<5",
        "35: 1<5",
        "40: 6<7",
        "41: 1<6 1<7 6<7",
    };

    private EdgesCoverTest() {
    }

    public static void main(String[] args) {
        List<String> names = names();
        for (int promise = 1; promise <= Document.PROMISES; promise++) {
            String own = String.format("promise%02d_", promise);
            is(own + " has a test", names.stream().anyMatch(n -> n.startsWith(own)));
            for (int refusal : refusalsNamedBy(promise)) {
                is(own + "minus" + refusal + " has a test",
                    names.stream().anyMatch(n -> n.matches(own + "minus" + refusal + "_(?!comesBefore).*")));
            }
        }
        for (String pairs : PAIRS) {
            String own = String.format("promise%02d_", Integer.parseInt(pairs.substring(0, pairs.indexOf(':'))));
            for (String pair : pairs.substring(pairs.indexOf(' ') + 1).split(" ")) {
                String[] two = pair.split("<");
                String name = own + "minus" + two[0] + "_comesBefore(_minus\\d+)*_minus" + two[1] + "(_minus\\d+)*";
                is(name + " is a test", names.stream().anyMatch(n -> n.matches(name)));
            }
        }
        Due.end();
    }

    private static void is(String what, boolean so) {
        Due.same(what, "true", String.valueOf(so));
    }

    private static List<String> names() {
        List<String> names = new ArrayList<>();
        for (Class<?> tests : TESTS) {
            for (Method method : Edge.testsOf(tests)) {
                names.add(method.getName());
            }
        }
        return names;
    }

    /** The numbers as the promise's own words have them, but for what they are counted as, and the list of all. */
    private static Set<Integer> refusalsNamedBy(int promise) {
        String own = Document.part(promise).replaceAll("counted as -\\d+(, -\\d+)*", "").replace("REFUSALS -1 to -7", "");
        Set<Integer> refusals = new TreeSet<>();
        Matcher number = Pattern.compile("(?<![\\w-])-(\\d+)").matcher(own);
        while (number.find()) {
            refusals.add(Integer.parseInt(number.group(1)));
        }
        return refusals;
    }
}
