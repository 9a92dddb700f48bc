import java.io.IOException;
import java.io.UncheckedIOException;
import java.nio.file.Files;
import java.nio.file.Path;

/** The document's own words, so that a test which quotes a sentence can be held against where it stands. */
final class Doc {
    private static final String TEXT = read();

    private Doc() {
    }

    private static String read() {
        try {
            return plain(Files.readString(Path.of("../shared/DOC.md")));
        } catch (IOException e) {
            throw new UncheckedIOException(e);
        }
    }

    private static String plain(String text) {
        return text.replaceAll("\\s+", " ");
    }

    /** Where: "What it is", "Terms" (their first part), "==== 2.", "==== 3.", or "Promise 1" to "Promise 22". */
    static boolean says(String where, String quote) {
        return part(where).contains(plain(quote));
    }

    private static String part(String where) {
        switch (where) {
            case "What it is":
                return between("## What it is", "## The public face");
            case "Terms":
                return between("## Terms ", "==== 2. PARTS");
            case "==== 2.":
                return between("==== 2. PARTS", "==== 3. PACE");
            case "==== 3.":
                return between("==== 3. PACE", "## Promise 1:");
            case "Promise 22":
                return between("## Promise 22:", "## Not promised");
            default:
                int number = Integer.parseInt(where.substring("Promise ".length()));
                return between("## Promise " + number + ":", "## Promise " + (number + 1) + ":");
        }
    }

    private static String between(String first, String last) {
        int from = TEXT.indexOf(first);
        int to = TEXT.indexOf(last);
        return from < 0 || to < from ? "" : TEXT.substring(from, to);
    }
}
