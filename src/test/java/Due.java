import java.util.function.LongSupplier;

/** What the tests share: answers that are due, and how a test ends. */
final class Due {
    private static int asked = 0;
    private static int wrong = 0;

    private Due() {
    }

    static void due(String call, long want, long got) {
        asked++;
        if (got != want) {
            wrong++;
            System.out.println(call + " answered " + got + ", due is " + want);
        }
    }

    /** A call that is refused: it answers the number, counts it (and no other), and changes nothing else. */
    static void refused(String call, long want, AStreetByACane x, LongSupplier asks) {
        refusedAs(call, want, want, x, asks);
    }

    static void refusedAs(String call, long want, long countedAs, AStreetByACane x, LongSupplier asks) {
        long[] counts = refusals(x);
        String before = Sight.of(x);
        due(call, want, asks.getAsLong());
        long[] countsThen = refusals(x);
        for (int i = 1; i <= 7; i++) {
            due(call + ": refusals -" + i, counts[i] + (i == -countedAs ? 1 : 0), countsThen[i]);
        }
        same(call + ": what can be seen", before, Sight.of(x));
    }

    /** A call that is not refused whatever it answers. */
    static void notRefused(String call, long want, AStreetByACane x, LongSupplier asks) {
        refusedAs(call, want, 0, x, asks);
    }

    static void same(String what, String want, String got) {
        asked++;
        if (!want.equals(got)) {
            wrong++;
            System.out.println(what + " was\n  " + got + "\ndue is\n  " + want);
        }
    }

    static void end() {
        System.out.println(wrong == 0 ? "all " + asked + " answers are as due" : wrong + " answers are not as due");
        if (wrong != 0) {
            System.exit(1);
        }
    }

    /** Puts a text as a row of letters on a shelf. */
    static void put(AStreetByACane x, int s, String text) {
        x.row(s, 0, text.length());
        for (int i = 0; i < text.length(); i++) {
            x.set(s, i, text.charAt(i));
        }
    }

    /** Puts numbers as a row of ints on a shelf. */
    static void put(AStreetByACane x, int s, int... numbers) {
        x.row(s, 2, numbers.length);
        for (int i = 0; i < numbers.length; i++) {
            x.set(s, i, numbers[i]);
        }
    }

    private static long[] refusals(AStreetByACane x) {
        long[] counts = new long[8];
        for (int i = 1; i <= 7; i++) {
            counts[i] = x.status(10 + i);
        }
        return counts;
    }
}
