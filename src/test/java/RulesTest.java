import java.io.IOException;
import java.lang.reflect.Constructor;
import java.lang.reflect.Field;
import java.lang.reflect.Method;
import java.lang.reflect.Modifier;
import java.nio.file.Files;
import java.nio.file.Path;
import java.util.ArrayList;
import java.util.List;
import java.util.Set;
import java.util.TreeSet;
import java.util.regex.Matcher;
import java.util.regex.Pattern;

/** The face of the class as ../shared/DOC.md tells it, and rules of ../shared/LANGUAGE.md that can be read off. */
public final class RulesTest {
    private static final Path DOC = Path.of("../shared/DOC.md");
    private static final Path PROGRAM = Path.of("src/main/java/AuctionRoom.java");
    private static int wrong;

    public static void main(String[] args) throws IOException {
        faceIsTheDocuments();
        membersAreHidden();
        classesAreFew();
        wordsAreAllowed();
        System.out.println(wrong == 0 ? "face and rules are kept" : wrong + " rules are not kept");
        if (wrong != 0) System.exit(1);
    }

    private static void refuse(String what) {
        wrong++;
        System.out.println(what);
    }

    private static void faceIsTheDocuments() throws IOException {
        Set<String> due = new TreeSet<>();
        boolean inside = false;
        for (String line : Files.readAllLines(DOC)) {
            if (line.equals("public final class AuctionRoom {")) inside = true;
            else if (line.equals("}")) inside = false;
            else if (inside) due.add(line.strip().replaceAll(" [a-z]+([,)])", "$1").replace(";", ""));
        }
        Set<String> got = new TreeSet<>();
        for (Constructor<?> c : AuctionRoom.class.getDeclaredConstructors()) {
            got.add(c.toString().replace(",", ", "));
        }
        for (Method m : AuctionRoom.class.getDeclaredMethods()) {
            if (!Modifier.isPrivate(m.getModifiers())) {
                got.add(m.toString().replace("AuctionRoom.", "").replace(",", ", "));
            }
        }
        if (due.size() != 42 || !due.equals(got)) refuse("the face is " + got + ", due is " + due);
        if (!Modifier.isFinal(AuctionRoom.class.getModifiers())) refuse("the class is not final");
    }

    private static List<Class<?>> classes() {
        List<Class<?>> all = new ArrayList<>(List.of(AuctionRoom.class));
        all.addAll(List.of(AuctionRoom.class.getDeclaredClasses()));
        return all;
    }

    private static void membersAreHidden() {
        Set<String> face = new TreeSet<>();
        for (Method m : AuctionRoom.class.getDeclaredMethods()) {
            if (Modifier.isPublic(m.getModifiers())) face.add(m.getName());
        }
        for (Class<?> each : classes()) {
            for (Method m : each.getDeclaredMethods()) {
                boolean ofFace = each == AuctionRoom.class && Modifier.isPublic(m.getModifiers());
                if (!ofFace && face.contains(m.getName())) refuse("named as a public one: " + m);
                if (m.getParameterCount() > 7) refuse("too many parameters: " + m);
            }
            for (Field f : each.getDeclaredFields()) {
                if (!Modifier.isPrivate(f.getModifiers())) refuse("not private: " + f);
                if (Modifier.isStatic(f.getModifiers()) && !Modifier.isFinal(f.getModifiers())) refuse("not final: " + f);
            }
        }
    }

    private static void classesAreFew() {
        if (classes().size() > 12) refuse("too many classes: " + classes());
        for (Class<?> each : classes()) {
            boolean inside = each != AuctionRoom.class;
            if (inside && !Modifier.isStatic(each.getModifiers())) refuse("not static: " + each);
            int fields = 0;
            for (Field f : each.getDeclaredFields()) if (!Modifier.isStatic(f.getModifiers())) fields++;
            if (fields > 20) refuse("too many fields: " + each);
        }
    }

    private static void wordsAreAllowed() throws IOException {
        String text = Files.readString(PROGRAM).replaceAll("(?s)/\\*.*?\\*/", "").replaceAll("//[^\n]*", "");
        Matcher words = Pattern.compile("\\b(throws?|try|catch|finally|synchronized|assert|package|volatile|native"
            + "|hashCode|toString|equals|[a-z]+Exact|Object|Random|System\\.(?!arraycopy))\\b|->|::|\"").matcher(text);
        while (words.find()) refuse("not allowed: " + words.group());
        Matcher imports = Pattern.compile("import [^;]*;").matcher(text);
        while (imports.find()) {
            if (!imports.group().equals("import java.util.Arrays;")) refuse("not allowed: " + imports.group());
        }
    }
}
