import java.io.IOException;
import java.io.UncheckedIOException;
import java.nio.file.Files;
import java.nio.file.Path;
import java.util.HashMap;
import java.util.Map;

/**
 * ../shared/DOC.md, so that a test can't quote a sentence that is not there. The tests hold without
 * it too: where there is no document, no quotation is checked.
 */
final class Document {
    private static final Path PLACE = Path.of("..", "shared", "DOC.md");
    /** By heading; null until it is asked for, for most tests don't quote. */
    private static Map<String, String> sections = null;

    private Document() {
    }

    /** A promise's sentence stands under its own heading, or under those that serve them all. */
    static boolean says(int promise, String words) {
        if (!Files.exists(PLACE)) {
            return true;
        }
        if (sections == null) {
            sections = read();
        }
        return section("Promise " + promise).contains(words)
            || section("What it is").contains(words)
            || section("Terms").contains(words)
            || section("The public face").contains(words);
    }

    /** The title of a promise goes on behind its number: "Promise 2: setSource". */
    private static String section(String title) {
        return sections.getOrDefault(title, "");
    }

    private static Map<String, String> read() {
        Map<String, String> found = new HashMap<>();
        for (String part : text().split("(?m)^## ")) {
            String[] titleAndRest = part.split("\n", 2);
            String title = titleAndRest[0].split(":")[0].strip();
            String rest = titleAndRest.length < 2 ? "" : titleAndRest[1];
            found.put(title, rest.replaceAll("\\s+", " "));
        }
        return found;
    }

    private static String text() {
        try {
            return Files.readString(PLACE);
        } catch (IOException e) {
            throw new UncheckedIOException(e);
        }
    }
}
