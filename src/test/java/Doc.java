import java.io.IOException;
import java.nio.file.Files;
import java.nio.file.Path;
import java.util.LinkedHashMap;
import java.util.List;
import java.util.Map;

/** The words of ../shared/DOC.md by their headings, each text with single blanks. Run it from the project's root. */
final class Doc {
    private static final Path PLACE = Path.of("../shared/DOC.md");
    // A heading in the document that bears no sign of one.
    private static final String PLAIN_HEADING = "Oysters, dredging";

    private Doc() {
    }

    static Map<String, String> sections() {
        Map<String, String> sections = new LinkedHashMap<>();
        String heading = "";
        for (String line : lines()) {
            if (line.startsWith("#") || line.equals(PLAIN_HEADING)) {
                heading = line.replaceFirst("^#+ *", "");
                sections.put(heading, "");
            } else {
                String text = sections.getOrDefault(heading, "") + " " + line.replaceFirst("^- ", "");
                sections.put(heading, text.replaceAll("\\s+", " "));
            }
        }
        return sections;
    }

    private static List<String> lines() {
        try {
            return Files.readAllLines(PLACE);
        } catch (IOException e) {
            throw new IllegalStateException(PLACE + " cannot be read", e);
        }
    }
}
