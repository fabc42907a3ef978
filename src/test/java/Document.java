import java.io.IOException;
import java.nio.file.Files;
import java.nio.file.Path;
import java.util.Map;
import java.util.TreeMap;

/** The sections of ../shared/DOC.md, so that a test can show the sentence that it stands for. */
final class Document {
    private static final Path DOC = Path.of("../shared/DOC.md");
    private static final Map<String, String> SECTIONS = new TreeMap<>();

    private Document() {
    }

    /** Whether words stand in a section, whose name is its title up to a colon. */
    static boolean says(String section, String words) throws IOException {
        if (SECTIONS.isEmpty()) read();
        return SECTIONS.getOrDefault(section, "").contains(words);
    }

    private static void read() throws IOException {
        String section = "";
        for (String line : Files.readAllLines(DOC)) {
            if (line.startsWith("## ")) section = line.substring(3).replaceAll(":.*", "");
            else SECTIONS.merge(section, line.strip(), (before, more) -> before + " " + more);
        }
    }
}
