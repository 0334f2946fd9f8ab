/** What can be seen of an object without changing it or being refused, in some 150 calls. */
final class Sight {
    private Sight() {
    }

    static String of(AStreetByACane x) {
        StringBuilder seen = new StringBuilder();
        for (int what = 0; what <= 9; what++) {
            seen.append("status").append(what).append('=').append(x.status(what)).append(' ');
        }
        street(x, seen);
        shelves(x, seen);
        seen.append("fault=").append(x.fault()).append(" trace=");
        for (int i = 0; i < 21; i++) {
            seen.append(x.trace(i)).append(',');
        }
        return seen.toString();
    }

    private static void street(AStreetByACane x, StringBuilder seen) {
        seen.append("odds=");
        for (int c = 0; c < x.status(0); c++) {
            seen.append(x.odds(c)).append(',');
        }
        for (int i = 0; i < x.status(1); i++) {
            seen.append(" sign").append(i).append('=');
            for (int what = 0; what < 4; what++) {
                seen.append(x.signOf(i, what)).append(',');
            }
        }
        for (int i = 0; i < x.status(2); i++) {
            seen.append(" thing").append(i).append('=');
            for (int what = 0; what < 3; what++) {
                seen.append(x.thingOf(i, what)).append(',');
            }
        }
    }

    private static void shelves(AStreetByACane x, StringBuilder seen) {
        for (int s = 0; s < 8; s++) {
            seen.append(" shelf").append(s).append('=').append(x.holds(s));
        }
    }

    /** The elements of a row, in 161 calls more. */
    static void elements(AStreetByACane x, int s, StringBuilder seen) {
        seen.append(" row").append(s).append('=');
        for (int i = 0; i <= 160; i++) {
            seen.append(x.element(s, i)).append(',');
        }
    }
}
