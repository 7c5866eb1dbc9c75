import java.io.IOException;
import java.lang.reflect.Constructor;
import java.lang.reflect.Field;
import java.lang.reflect.Method;
import java.lang.reflect.Modifier;
import java.nio.file.Files;
import java.nio.file.Path;
import java.util.ArrayList;
import java.util.Arrays;
import java.util.HashSet;
import java.util.List;
import java.util.Set;
import java.util.TreeSet;
import java.util.regex.Matcher;
import java.util.regex.Pattern;

/** The face of the class, and the rules of LANGUAGE.md that can be read off the source or the compiled class. */
public final class LanguageTest {
    private static final String[] FACE = {
        "int things(int)", "int thing(int,int,int)", "int guest(int,int,int,int,int)", "int leave(int)",
        "int say(int)", "int wipe()", "int fault()", "int judge(int)", "int used(int)", "int behind(int,int)",
        "int done()", "int state(int,int)", "int eats(int)", "int seen(int,int)", "int forget()",
        "int rows(int,int)", "int cup(int,int)", "int look(int,int)", "long belief(int,int,int)", "int alike(int)",
        "int lay(int)", "int hide()", "int trace()", "int lock(int,int)", "int year(int,int,int)", "int image(int)",
        "int restore(int)", "int told(int)"};
    private static final String[] CONSTANTS = {
        "int UNKNOWN", "int OUTSIDE", "int STATE", "int FULL", "int NO", "int NONE", "long GONE"};
    private static final String[] RULED_OUT = {
        "\\bthrows?\\b", "\\btry\\b", "\\bcatch\\b", "\\bfinally\\b", "\\bsynchronized\\b", "\\bassert\\b", "->", "::",
        "Exact\\b", "\\bpackage\\b", "\\bprotected\\b", "\\bnative\\b", "\\bvolatile\\b", "\\bvar\\b", "\\bstatic\\s*\\{",
        "\\bequals\\b", "\\bhashCode\\b", "\\btoString\\b", "\\bThread\\b", "\\bObject\\b", "\\bRandom\\b", "\\bdouble\\b",
        "\\bfloat\\b", "\\[\\]\\s*\\[\\]\\s*\\[\\]", "while\\s*\\(\\s*true", "for\\s*\\(\\s*;"};
    private static final Set<String> LIBRARY = Set.of(
        "Math.abs", "Math.min", "Math.max", "Integer.bitCount", "System.arraycopy", "Arrays.fill");
    private static final Check c = new Check();

    public static void main(String[] args) throws IOException {
        face();
        classesInside();
        String source = Files.readString(Path.of("src/main/java/SevenPlates.java"));
        signs(source);
        String code = withoutComments(source);
        ruledOut(code);
        library(code);
        methods(code);
        c.end();
    }

    private static void face() {
        Class<?> face = SevenPlates.class;
        c.holds("1 public and final", Modifier.isPublic(face.getModifiers()) && Modifier.isFinal(face.getModifiers()));
        List<String> open = new ArrayList<>();
        Set<String> publicNames = new HashSet<>();
        for (Method m : face.getDeclaredMethods()) {
            if (Modifier.isPrivate(m.getModifiers())) continue;
            c.holds("1 public, not static: " + m, m.getModifiers() == Modifier.PUBLIC);
            publicNames.add(m.getName());
            String types = Arrays.toString(Arrays.stream(m.getParameterTypes()).map(Class::getName).toArray());
            open.add(m.getReturnType() + " " + m.getName() + "(" + types.substring(1, types.length() - 1).replace(" ", "") + ")");
        }
        c.holds("1 the document's methods: " + open, new TreeSet<>(open).equals(new TreeSet<>(Arrays.asList(FACE))));
        List<String> constants = new ArrayList<>();
        for (Field f : face.getDeclaredFields()) {
            if (Modifier.isPrivate(f.getModifiers())) continue;
            c.holds("1 a public constant: " + f, f.getModifiers() == (Modifier.PUBLIC | Modifier.STATIC | Modifier.FINAL));
            constants.add(f.getType() + " " + f.getName());
        }
        c.holds("1 the document's constants: " + constants, constants.equals(Arrays.asList(CONSTANTS)));
        Constructor<?>[] makers = face.getDeclaredConstructors();
        c.holds("1 one public constructor", makers.length == 1 && makers[0].getModifiers() == Modifier.PUBLIC
            && makers[0].getParameterCount() == 0);
        for (Class<?> inside : face.getDeclaredClasses()) privateNames(inside, publicNames);
        privateNames(face, publicNames);
    }

    private static void privateNames(Class<?> where, Set<String> publicNames) {
        for (Method m : where.getDeclaredMethods()) {
            if (Modifier.isPublic(m.getModifiers())) continue;
            c.holds("1 no private method bears a public one's name: " + m, !publicNames.contains(m.getName()));
        }
    }

    private static void classesInside() {
        Class<?>[] inside = SevenPlates.class.getDeclaredClasses();
        c.holds("11 twelve classes at most", inside.length < 12);
        for (Class<?> each : inside) c.holds("2 static: " + each, Modifier.isStatic(each.getModifiers()));
        List<Class<?>> all = new ArrayList<>(Arrays.asList(inside));
        all.add(SevenPlates.class);
        for (Class<?> each : all) {
            int fields = 0;
            for (Field f : each.getDeclaredFields()) {
                if (Modifier.isStatic(f.getModifiers())) {
                    c.holds("5 static fields are final: " + f, Modifier.isFinal(f.getModifiers()));
                } else {
                    fields++;
                }
            }
            c.holds("11 twenty fields at most: " + each, fields <= 20);
            for (Method m : each.getDeclaredMethods()) c.holds("11 seven parameters: " + m, m.getParameterCount() <= 7);
        }
    }

    private static void signs(String source) {
        for (int i = 0; i < source.length(); i++) {
            if (source.charAt(i) > 126) c.holds("3 a sign above 126 at " + i, false);
        }
        c.holds("3 no tabs", source.indexOf('\t') < 0);
    }

    private static String withoutComments(String source) {
        return source.replaceAll("(?s)/\\*.*?\\*/", "").replaceAll("//[^\n]*", "");
    }

    private static void ruledOut(String code) {
        for (String each : RULED_OUT) c.holds("ruled out: " + each, !Pattern.compile(each).matcher(code).find());
        for (String line : code.split("\n")) {
            if (line.startsWith("import")) c.holds("4 " + line, line.equals("import java.util.Arrays;"));
        }
    }

    private static void library(String code) {
        Matcher m = Pattern.compile("\\b(?:Math|Integer|Long|System|Arrays|String|List)\\.\\w+").matcher(code);
        while (m.find()) c.holds("4 " + m.group(), LIBRARY.contains(m.group()));
    }

    /** A method is a line that ends in ') {' at the depth of a class, up to the brace that closes it. */
    private static void methods(String code) {
        String[] lines = code.split("\n");
        for (int i = 0; i < lines.length; i++) {
            Matcher m = Pattern.compile("^( +)(?:public|private)[^=;]*\\) \\{$").matcher(lines[i]);
            if (!m.find()) continue;
            int end = i;
            while (end < lines.length && !lines[end].equals(m.group(1) + "}")) end++;
            c.holds("11 sixty lines: " + lines[i].trim(), end - i <= 60);
        }
    }
}
