import java.io.IOException;
import java.nio.file.Files;
import java.nio.file.Path;
import java.util.LinkedHashMap;
import java.util.Map;
import java.util.Set;

/** The words of ../shared/DOC.md by section, without the marks of their layout. */
final class Document {
    private static final Path SOURCE = Path.of("../shared/DOC.md");

    private final Map<String, String> sections = new LinkedHashMap<>();

    Document() throws IOException {
        for (String part : Files.readString(SOURCE).split("(?m)^#+ ")) {
            int lineEnd = part.indexOf('\n');
            if (lineEnd >= 0) {
                String heading = part.substring(0, lineEnd);
                sections.put(heading.split(":")[0].trim(), plain(part.substring(lineEnd)));
            }
        }
    }

    private static String plain(String text) {
        return text.replaceAll("(?m)^\\s*(-|\\d+\\.) ", "").replace("`", "").replace('|', ' ')
            .replaceAll("\\s+", " ");
    }

    Set<String> names() {
        return sections.keySet();
    }

    /** No words where the document has no such section. */
    String section(String name) {
        return sections.getOrDefault(name, "");
    }
}
