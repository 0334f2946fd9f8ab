import java.util.function.LongSupplier;

/** What the tests share: answers that are due, and how a test ends. */
final class Due {
    private static int asked = 0;
    private static int wrong = 0;

    private Due() {
    }

    static void due(String call, long want, long got) {
        asked++;
        if (got != want) {
            wrong++;
            System.out.println(call + " answered " + got + ", due is " + want);
        }
    }

    /** A call that is refused: it answers the number and counts it; that nothing else changes, Edge looks at. */
    static void refused(String call, long want, AStreetByACane x, LongSupplier asks) {
        refusedAs(call, want, want, x, asks);
    }

    static void refusedAs(String call, long want, long countedAs, AStreetByACane x, LongSupplier asks) {
        int what = (int) (10 - countedAs);
        long before = x.status(what);
        due(call, want, asks.getAsLong());
        due(call + ": how many", before + 1, x.status(what));
    }

    /** A call that is not refused, though its answer may look so. */
    static void notRefused(String call, long want, AStreetByACane x, LongSupplier asks) {
        int what = want < 0 && want >= -7 ? (int) (10 - want) : 16;
        long before = x.status(what);
        due(call, want, asks.getAsLong());
        due(call + ": how many", before, x.status(what));
    }

    static void same(String what, String want, String got) {
        asked++;
        if (!want.equals(got)) {
            wrong++;
            System.out.println(what + " was\n  " + got + "\ndue is\n  " + want);
        }
    }

    static void end() {
        System.out.println(wrong == 0 ? "all " + asked + " answers are as due" : wrong + " answers are not as due");
        if (wrong != 0) {
            System.exit(1);
        }
    }

    /** Puts a text as a row of letters on a shelf. */
    static void put(AStreetByACane x, int s, String text) {
        x.row(s, 0, text.length());
        for (int i = 0; i < text.length(); i++) {
            x.set(s, i, text.charAt(i));
        }
    }

    /** Puts numbers as a row of ints on a shelf. */
    static void put(AStreetByACane x, int s, int... numbers) {
        x.row(s, 2, numbers.length);
        for (int i = 0; i < numbers.length; i++) {
            x.set(s, i, numbers[i]);
        }
    }
}
