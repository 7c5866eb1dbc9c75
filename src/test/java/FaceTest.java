import java.io.IOException;
import java.lang.reflect.Field;
import java.lang.reflect.Method;
import java.lang.reflect.Modifier;
import java.nio.file.Files;
import java.nio.file.Path;
import java.util.ArrayList;
import java.util.Arrays;
import java.util.Collections;
import java.util.List;
import java.util.regex.Matcher;
import java.util.regex.Pattern;

/** "The public face", read from the document itself: every constant with its value, every signature, nothing else. */
public final class FaceTest {
    private static final Check c = new Check();

    public static void main(String[] args) throws IOException, IllegalAccessException {
        String document = Files.readString(Path.of("../shared/DOC.md"));
        String source = Files.readString(Path.of("src/main/java/SevenPlates.java"));
        String face = between(document, "```java\n", "```");
        theClass(face);
        constants(face);
        methods(face);
        words(face, source);
        promises(document, face);
        c.end();
    }

    private static String between(String text, String ahead, String behind) {
        int from = text.indexOf(ahead) + ahead.length();
        return text.substring(from, text.indexOf(behind, from));
    }

    private static List<String> found(String text, String pattern) {
        List<String> all = new ArrayList<>();
        Matcher m = Pattern.compile(pattern, Pattern.MULTILINE).matcher(text);
        while (m.find()) all.add(m.group(1));
        return all;
    }

    private static void theClass(String face) {
        Class<?> x = SevenPlates.class;
        c.holds("the document's class", face.startsWith("public final class SevenPlates {"));
        c.due("public and final, no more", x.getModifiers(), Modifier.PUBLIC | Modifier.FINAL);
        c.holds("no package", x.getPackageName().isEmpty());
        c.holds("no class above it", x.getSuperclass() == Object.class);
        c.due("no interfaces", x.getInterfaces().length, 0);
        c.due("no public class inside", x.getClasses().length, 0);
        c.due("constructors", x.getDeclaredConstructors().length, 1);
        c.holds("the document's constructor", face.contains("    public SevenPlates();\n")
            && Modifier.isPublic(x.getDeclaredConstructors()[0].getModifiers())
            && x.getDeclaredConstructors()[0].getParameterCount() == 0
            && x.getDeclaredConstructors()[0].getExceptionTypes().length == 0);
    }

    /** By what the compiled class holds, not by what the compiler would write into this test. */
    private static void constants(String face) throws IllegalAccessException {
        List<String> due = new ArrayList<>();
        for (String line : found(face, "public static final ([^;]*);")) {
            String type = line.substring(0, line.indexOf(' '));
            for (String each : line.substring(type.length()).split(",")) due.add(type + " " + each.trim().replaceAll("L$", ""));
        }
        List<String> got = new ArrayList<>();
        for (Field f : SevenPlates.class.getDeclaredFields()) {
            if (Modifier.isPrivate(f.getModifiers())) continue;
            c.due("a constant: " + f, f.getModifiers(), Modifier.PUBLIC | Modifier.STATIC | Modifier.FINAL);
            got.add(f.getType() + " " + f.getName() + " = " + f.getLong(null));
        }
        same("constants", got, due);
        c.due("constants", got.size(), 7);
    }

    private static void methods(String face) {
        List<String> due = new ArrayList<>();
        for (String line : found(face, "public ((?:int|long) \\w+\\([^)]*\\));")) due.add(line.replaceAll("int \\w+([,)])", "int$1"));
        List<String> got = new ArrayList<>();
        for (Method m : SevenPlates.class.getDeclaredMethods()) {
            if (Modifier.isPrivate(m.getModifiers())) continue;
            c.due("public, no more: " + m, m.getModifiers(), Modifier.PUBLIC);
            c.due("no exceptions: " + m, m.getExceptionTypes().length, 0);
            String types = Arrays.toString(Arrays.stream(m.getParameterTypes()).map(Class::getName).toArray());
            got.add(m.getReturnType() + " " + m.getName() + "(" + types.substring(1, types.length() - 1) + ")");
        }
        same("methods", got, due);
        c.due("methods", got.size(), 28);
    }

    private static void same(String what, List<String> got, List<String> due) {
        Collections.sort(got);
        Collections.sort(due);
        c.holds(what + ": " + got + ", due are " + due, got.equals(due));
    }

    /** The names of the arguments are the document's, too. */
    private static void words(String face, String source) {
        for (String line : found(face, "(public \\w+ \\w+\\([^)]*\\));")) c.holds(line, source.contains("    " + line + " {\n"));
    }

    /** Each promise tells a call of the face, in its order. */
    private static void promises(String document, String face) {
        List<String> told = found(document, "^## Promise \\d+: .*\\n\\n`([^`]*)`");
        List<String> calls = found(face, "public ((?:int |long )?\\w+\\([^)]*\\));");
        c.due("promises", told.size(), 29);
        c.holds("promises " + told + ", calls " + calls, told.equals(calls));
    }
}
