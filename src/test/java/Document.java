import java.io.IOException;
import java.nio.file.Files;
import java.nio.file.Path;
import java.util.LinkedHashMap;
import java.util.Map;

/** The document, as it stands beside the project, cut into its sections. */
final class Document {
    private static final Path FILE = Path.of("../shared/DOC.md");

    private Document() {
    }

    /** The sections by their headings, in their order; each text begins with its heading. */
    static Map<String, String> sections() throws IOException {
        Map<String, String> found = new LinkedHashMap<>();
        for (String part : Files.readString(FILE).split("(?m)^##? ")) {
            if (!part.isBlank()) {
                found.put(part.substring(0, part.indexOf('\n')).trim(), part);
            }
        }
        return found;
    }

    static String section(String heading) throws IOException {
        String text = sections().get(heading);
        if (text == null) {
            throw new IllegalStateException("the document has no section " + heading);
        }
        return text;
    }
}
