import java.io.IOException;
import java.nio.file.Files;
import java.nio.file.Path;
import java.util.ArrayList;
import java.util.List;
import java.util.Map;
import java.util.TreeMap;
import java.util.regex.Matcher;
import java.util.regex.Pattern;

/** The sections of ../shared/DOC.md, so that a test can show the sentence that it stands for. */
final class Document {
    private static final Path DOC = Path.of("../shared/DOC.md");
    private static final Pattern METHOD = Pattern.compile("    public (?:int|long) (\\w+)\\(.*");
    private static final Map<String, String> SECTIONS = new TreeMap<>();

    private Document() {
    }

    /** Whether words stand in a section, whose name is its title up to a colon. */
    static boolean says(String section, String words) throws IOException {
        if (SECTIONS.isEmpty()) read();
        return SECTIONS.getOrDefault(section, "").contains(words);
    }

    /** The names of the acts, in the order of the face: all up to undo. */
    static List<String> acts() throws IOException {
        List<String> names = new ArrayList<>();
        for (String line : Files.readAllLines(DOC)) {
            Matcher m = METHOD.matcher(line);
            if (m.matches() && !names.contains("undo")) names.add(m.group(1));
        }
        return names;
    }

    private static void read() throws IOException {
        String section = "";
        for (String line : Files.readAllLines(DOC)) {
            if (line.startsWith("## ")) section = line.substring(3).replaceAll(":.*", "");
            else SECTIONS.merge(section, line.strip(), (before, more) -> before + " " + more);
        }
    }
}
