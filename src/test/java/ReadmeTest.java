import java.io.IOException;
import java.lang.reflect.Field;
import java.net.URL;
import java.net.URLClassLoader;
import java.nio.file.Files;
import java.nio.file.Path;
import java.util.ArrayList;
import java.util.List;
import java.util.regex.Matcher;
import java.util.regex.Pattern;
import javax.tools.ToolProvider;

/** The example in README.md compiles, and each variable is what the comment behind it says. */
public final class ReadmeTest {
    private static final Path README = Path.of("README.md");
    private static final Path PLACE = Path.of("build/readme");
    private static final Pattern TOLD = Pattern.compile("(?:int|long) (\\w+) = .*; +// = (-?\\d+)");
    private static final Pattern CALL = Pattern.compile("`(\\w+)`");

    public static void main(String[] args) throws Exception {
        List<String> lines = example();
        List<Matcher> told = new ArrayList<>();
        for (String line : lines) {
            Matcher m = TOLD.matcher(line);
            if (m.matches()) told.add(m);
        }
        Check.due("the example tells answers", !told.isEmpty());
        Class<?> example = compiled(lines, told);
        if (example != null) {
            example.getMethod("run").invoke(null);
            for (Matcher m : told) {
                Field value = example.getField("told" + m.group(1));
                Check.due("README.md: " + m.group().strip(), value.getLong(null), Long.parseLong(m.group(2)));
            }
        }
        groupsNameActs();
        Check.end();
    }

    private static List<String> example() throws IOException {
        List<String> lines = new ArrayList<>();
        boolean inside = false;
        for (String line : Files.readAllLines(README)) {
            if (line.equals("```java")) inside = true;
            else if (line.equals("```")) inside = false;
            else if (inside) lines.add(line);
        }
        return lines;
    }

    /** The example as a class whose fields tell what its variables were; null if it does not compile. */
    private static Class<?> compiled(List<String> lines, List<Matcher> told) throws Exception {
        StringBuilder source = new StringBuilder("public class ReadmeExample {\n");
        for (Matcher m : told) source.append("public static long told").append(m.group(1)).append(";\n");
        source.append("public static void run() {\n");
        for (String line : lines) source.append(line).append('\n');
        for (Matcher m : told) {
            source.append("told").append(m.group(1)).append(" = ").append(m.group(1)).append(";\n");
        }
        Files.createDirectories(PLACE);
        Path file = Files.writeString(PLACE.resolve("ReadmeExample.java"), source.append("}\n}\n"));
        int code = ToolProvider.getSystemJavaCompiler().run(null, null, null,
                "-cp", System.getProperty("java.class.path"), "-d", PLACE.toString(), file.toString());
        Check.due("README.md: javac of the example", code, 0);
        if (code != 0) return null;
        URL[] places = {PLACE.toUri().toURL()};
        return new URLClassLoader(places, ReadmeTest.class.getClassLoader()).loadClass("ReadmeExample");
    }

    /** Each call that the table of calls names is one of the face, and all acts are named. */
    private static void groupsNameActs() throws Exception {
        List<String> named = new ArrayList<>();
        boolean inside = false;
        for (String line : Files.readAllLines(README)) {
            if (line.startsWith("| calls |")) inside = true;
            else if (!line.startsWith("|")) inside = false;
            else if (inside) {
                Matcher m = CALL.matcher(line);
                while (m.find()) named.add(m.group(1));
            }
        }
        List<String> due = Document.acts();
        due.add("kindOf");
        due.add("digest");
        Check.due("README.md names " + named + ", the document " + due, named.equals(due));
    }
}
