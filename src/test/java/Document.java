import java.io.IOException;
import java.io.UncheckedIOException;
import java.nio.file.Files;
import java.nio.file.Path;
import java.util.LinkedHashMap;
import java.util.Map;

/** The words of the document, by its headings. */
final class Document {
    private static final Path PLACE = Path.of("..", "shared", "DOC.md");

    private Document() {
    }

    static boolean isThere() {
        return Files.isReadable(PLACE);
    }

    /** The text under each heading; a heading counts up to its colon: "Promise 2". */
    static Map<String, String> sections() {
        Map<String, String> sections = new LinkedHashMap<>();
        String heading = "";
        for (String line : text().split("\n")) {
            if (line.startsWith("#")) {
                heading = line.replaceFirst("^#+ ", "").replaceFirst(":.*", "");
                sections.put(heading, "");
            } else {
                sections.merge(heading, line + "\n", String::concat);
            }
        }
        return sections;
    }

    /** A text with one space where it has blanks or ends of lines. */
    static String plain(String text) {
        return text.replaceAll("\\s+", " ").trim();
    }

    private static String text() {
        try {
            return Files.readString(PLACE);
        } catch (IOException e) {
            throw new UncheckedIOException(e);
        }
    }
}
