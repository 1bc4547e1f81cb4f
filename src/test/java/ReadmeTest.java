import java.io.ByteArrayOutputStream;
import java.io.IOException;
import java.io.PrintStream;
import java.net.URL;
import java.net.URLClassLoader;
import java.nio.charset.StandardCharsets;
import java.nio.file.Files;
import java.nio.file.Path;
import java.util.Set;
import java.util.TreeSet;
import java.util.regex.Matcher;
import java.util.regex.Pattern;
import java.util.spi.ToolProvider;
import java.util.stream.Stream;

/** Whether README.md holds: its example prints what it says, its tables say what the document says. */
public final class ReadmeTest {
    private static final Pattern ROW = Pattern.compile("(?m)^\\| `(\\w+)\\(([^)]*)\\)` \\| (.*) \\| (.*)\\|$");
    private static final Pattern FACE = Pattern.compile("(?m)^    public int (\\w+)\\((.*)\\);$");
    private static final Pattern SPECIAL = Pattern.compile("\\b(NONE|UNKNOWN|OUTSIDE|NOT|FULL)\\b");

    public static void main(String[] args) throws Exception {
        String page = Files.readString(Path.of("README.md"), StandardCharsets.UTF_8);
        String document = Files.readString(Path.of("../shared/DOC.md"), StandardCharsets.UTF_8);
        calls(page, document);
        constants(page);
        tests(page);
        example(page);
        Due.end("ReadmeTest");
    }

    /** Each call of the face has its row, with its arguments and what it refuses by. */
    private static void calls(String page, String document) {
        Set<String> rows = new TreeSet<>(), face = new TreeSet<>();
        Matcher row = ROW.matcher(page);
        while (row.find()) {
            rows.add(row.group(1) + "(" + row.group(2) + ")");
            Set<String> due = special(promise(document, row.group(1)));
            Set<String> told = special(row.group(3) + row.group(4));
            Due.isTrue(row.group(1) + " tells " + told + ", the document " + due, told.equals(due));
            Due.isTrue(row.group(1) + " does not refuse by NONE", !special(row.group(4)).contains("NONE"));
        }
        Matcher call = FACE.matcher(document);
        while (call.find()) {
            face.add(call.group(1) + "(" + call.group(2).replaceAll("\\b(?:int|long|boolean) ", "") + ")");
        }
        Due.is("calls of the face", face.size(), 27);
        Due.isTrue("rows " + rows, rows.equals(face));
    }

    private static String promise(String document, String call) {
        Matcher text = Pattern.compile("(?m)^## Promise \\d+: " + call + "\\s+`.*?`: (.*)$").matcher(document);
        return text.find() ? text.group(1) : "";
    }

    private static Set<String> special(String text) {
        Set<String> all = new TreeSet<>();
        Matcher word = SPECIAL.matcher(text);
        while (word.find()) all.add(word.group());
        return all;
    }

    private static void constants(String page) {
        Due.isTrue("UNKNOWN", page.contains("| `UNKNOWN` | " + EvenDays.UNKNOWN + " |"));
        Due.isTrue("OUTSIDE", page.contains("| `OUTSIDE` | " + EvenDays.OUTSIDE + " |"));
        Due.isTrue("NOT", page.contains("| `NOT` | " + EvenDays.NOT + " |"));
        Due.isTrue("FULL", page.contains("| `FULL` | " + EvenDays.FULL + " |"));
        Due.isTrue("NONE", page.contains("`NONE` (" + EvenDays.NONE + ")"));
    }

    private static void tests(String page) throws IOException {
        try (Stream<Path> files = Files.list(Path.of("src/test/java"))) {
            for (Path file : files.sorted().toList()) {
                String name = file.getFileName().toString().replace(".java", "");
                Due.isTrue(name + " is told of", page.contains("`" + name + "`"));
            }
        }
    }

    private static void example(String page) throws Exception {
        Path folder = Files.createTempDirectory("readme");
        Path source = folder.resolve("Example.java");
        try {
            Files.writeString(source, block(page, "java"), StandardCharsets.UTF_8);
            ToolProvider javac = ToolProvider.findFirst("javac").orElseThrow();
            String classes = System.getProperty("java.class.path");
            Due.is("javac", javac.run(System.out, System.out, "-cp", classes, "-d", folder.toString(), source.toString()), 0);
            String printed = run(folder), due = block(page, "text");
            Due.isTrue("the example printed\n" + printed + "due is\n" + due, printed.equals(due));
        } finally {
            Files.deleteIfExists(source);
            Files.deleteIfExists(folder.resolve("Example.class"));
            Files.deleteIfExists(folder);
        }
    }

    private static String run(Path folder) throws Exception {
        PrintStream screen = System.out;
        ByteArrayOutputStream printed = new ByteArrayOutputStream();
        try (URLClassLoader loader = new URLClassLoader(new URL[] {folder.toUri().toURL()})) {
            System.setOut(new PrintStream(printed, true, StandardCharsets.UTF_8));
            loader.loadClass("Example").getMethod("main", String[].class).invoke(null, (Object) new String[0]);
        } finally {
            System.setOut(screen);
        }
        return printed.toString(StandardCharsets.UTF_8).replace(System.lineSeparator(), "\n");
    }

    private static String block(String page, String kind) {
        String begin = "```" + kind + "\n";
        int from = page.indexOf(begin), to = page.indexOf("```", from + begin.length());
        Due.isTrue("a block of " + kind, from >= 0 && to > from);
        return from >= 0 && to > from ? page.substring(from + begin.length(), to) : "";
    }
}
