import java.io.IOException;
import java.nio.file.Files;
import java.nio.file.Path;
import java.util.regex.Matcher;
import java.util.regex.Pattern;

/** ../shared/DOC.md, cut into what stands above the promises and what stands under each of them. */
final class Document {
    static final int PROMISES = 48;
    private static final String[] PARTS = new String[PROMISES + 1];

    private Document() {
    }

    /** What stands under a promise, its title too; 0: what stands above them all. Blanks are single ones. */
    static String part(int promise) {
        if (PARTS[0] == null) {
            read();
        }
        return PARTS[promise];
    }

    private static void read() {
        String text;
        try {
            text = Files.readString(Path.of("../shared/DOC.md"));
        } catch (IOException e) {
            throw new IllegalStateException("../shared/DOC.md is not there", e);
        }
        String promised = text.substring(0, text.indexOf("## Not promised"));
        Matcher heading = Pattern.compile("(?m)^## Promise (\\d+):").matcher(promised);
        int part = 0;
        int begins = 0;
        while (heading.find()) {
            PARTS[part] = plain(promised.substring(begins, heading.start()));
            part = Integer.parseInt(heading.group(1));
            begins = heading.end();
        }
        PARTS[part] = plain(promised.substring(begins));
    }

    private static String plain(String text) {
        return text.replaceAll("\\s+", " ").trim();
    }
}
