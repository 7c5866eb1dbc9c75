import java.io.IOException;
import java.nio.file.Files;
import java.nio.file.Path;
import java.util.List;
import java.util.regex.Matcher;
import java.util.regex.Pattern;
import java.util.stream.Collectors;
import java.util.stream.Stream;

/** README.md holds: the calls that it shows answer as it says, it names each call, each refusal and each test. */
public final class ReadmeTest {
    private static final Check c = new Check();

    public static void main(String[] args) throws IOException {
        String page = Files.readString(Path.of("README.md"));
        example(page);
        calls(page);
        refusals(page);
        tests(page);
        c.end();
    }

    /** Lines such as "x.say('A');   // = 1: an evening", in their order on one object. */
    private static void example(String page) {
        Matcher line = Pattern.compile("^x\\.(\\w+)\\(([^)]*)\\); *// = (-?\\d+)", Pattern.MULTILINE).matcher(page);
        SevenPlates x = new SevenPlates();
        int lines = 0;
        while (line.find()) {
            String[] words = line.group(2).isEmpty() ? new String[0] : line.group(2).split(", ");
            int[] a = new int[words.length];
            for (int i = 0; i < a.length; i++) a[i] = words[i].startsWith("'") ? words[i].charAt(1) : Integer.parseInt(words[i]);
            c.due("README: " + line.group(), Calls.on(x, line.group(1), a), Long.parseLong(line.group(3)));
            lines++;
        }
        c.due("README: every call of the example tells its answer", lines, page.lines().filter(l -> l.startsWith("x.")).count());
        c.holds("README: there is an example", lines > 0);
    }

    private static void calls(String page) {
        Stream.of(SevenPlates.class.getMethods()).filter(m -> m.getDeclaringClass() == SevenPlates.class)
            .forEach(m -> c.holds("README names " + m.getName(), page.contains("`" + m.getName() + "`")));
    }

    private static void refusals(String page) {
        String[] names = {"UNKNOWN", "OUTSIDE", "NO", "STATE", "FULL", "NONE"};
        for (String name : names) c.holds("README names " + name, page.contains("`" + name + "` " + Tale.number(name)));
        c.holds("README names GONE", page.contains("`GONE` (" + SevenPlates.GONE + ")"));
    }

    private static void tests(String page) throws IOException {
        List<String> names;
        try (Stream<Path> files = Files.list(Path.of("src/test/java"))) {
            names = files.map(f -> f.getFileName().toString()).filter(f -> f.endsWith("Test.java")).sorted()
                .map(f -> f.replace(".java", "")).collect(Collectors.toList());
        }
        for (String name : names) c.holds("README names " + name, page.contains("\n| " + name + " | "));
        long rows = page.lines().filter(l -> l.matches("\\| \\w+Test \\|.*")).count();
        c.due("README names no test that there is not", rows, names.size());
    }
}
