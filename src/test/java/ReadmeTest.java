import java.io.IOException;
import java.net.URL;
import java.net.URLClassLoader;
import java.nio.file.Files;
import java.nio.file.Path;
import java.util.ArrayList;
import java.util.List;
import java.util.Set;
import java.util.TreeSet;
import java.util.regex.Matcher;
import java.util.regex.Pattern;
import java.util.stream.Stream;
import javax.tools.JavaCompiler;
import javax.tools.ToolProvider;

/**
 * Each example of README.md, compiled as it stands, answers what the page says behind it; and the page
 * names each test that there is, and none that there is not.
 */
public final class ReadmeTest {
    private static final Path PAGE = Path.of("README.md");
    private static final String NAMES = "UNKNOWN|OUTSIDE|STATE|FULL|NO|NONE|GONE";
    /** A line of an example: what it does, and the answer at the beginning of its comment. */
    private static final Pattern LINE = Pattern.compile("(.*?;)\\s*//\\s*((?:-?\\d+L?|true|false|" + NAMES + ")(?: \\+ (?:" + NAMES + "))?)(?:$|[:;, ].*)");
    private static final Pattern NAMED = Pattern.compile("(?:long|int|boolean) (\\w+) = .*;");

    private static int right = 0, wrong = 0;

    public static void main(String[] args) throws Exception {
        String page = Files.readString(PAGE);
        List<String> examples = examples(page);
        due("examples: " + examples.size(), examples.size() >= 5, true);
        runExamples(examples);
        testsAreNamed(page);
        due(".ci/run can be run", Files.isExecutable(Path.of(".ci/run")) && page.contains(".ci/run"), true);
        System.out.println("readme: " + right + " answers right, " + wrong + " wrong");
        if (wrong != 0) System.exit(1);
    }

    /** Public, as the compiled examples call it. */
    public static void due(String what, long got, long want) { judge(what, got == want, String.valueOf(got), String.valueOf(want)); }
    public static void due(String what, boolean got, boolean want) { judge(what, got == want, String.valueOf(got), String.valueOf(want)); }

    private static void judge(String what, boolean same, String got, String want) {
        if (same) { right++; return; }
        wrong++;
        System.out.println("readme: " + what + " answered " + got + ", the page says " + want);
    }

    private static List<String> examples(String page) {
        List<String> all = new ArrayList<>();
        Matcher block = Pattern.compile("(?s)```java\n(.*?)```").matcher(page);
        while (block.find()) all.add(block.group(1));
        return all;
    }

    private static void runExamples(List<String> examples) throws Exception {
        Path folder = Files.createTempDirectory("readme");
        StringBuilder source = new StringBuilder("public final class Examples {\n");
        for (int i = 0; i < examples.size(); i++) source.append("public static void example").append(i).append("() {\n").append(checked(examples.get(i))).append("}\n");
        source.append("public static void all() {\n");
        for (int i = 0; i < examples.size(); i++) source.append("example").append(i).append("();\n");
        source.append("}\n}\n");
        Path file = Files.writeString(folder.resolve("Examples.java"), source.toString());
        JavaCompiler compiler = ToolProvider.getSystemJavaCompiler();
        int fault = compiler.run(null, null, null, "-cp", System.getProperty("java.class.path"), "-d", folder.toString(), file.toString());
        due("the examples compile", fault == 0, true);
        if (fault == 0) {
            try (URLClassLoader loader = new URLClassLoader(new URL[] {folder.toUri().toURL()}, ReadmeTest.class.getClassLoader())) {
                loader.loadClass("Examples").getMethod("all").invoke(null);
            }
        }
        remove(folder);
    }

    /** An example whose answers are looked at; a call on the town without an answer behind it is a fault of the page. */
    private static String checked(String example) {
        StringBuilder out = new StringBuilder();
        for (String line : example.split("\n")) {
            Matcher m = LINE.matcher(line);
            boolean silent = line.contains("new CellarTides()") || line.startsWith("for (") || line.isBlank();
            if (!m.matches()) {
                due("an answer behind [" + line + "]", silent, true);
                out.append(line).append('\n');
                continue;
            }
            String done = m.group(1), answer = m.group(2).replaceAll("\\b(" + NAMES + ")\\b", "CellarTides.$1");
            Matcher named = NAMED.matcher(done);
            String asked = named.matches() ? named.group(1) : done.substring(0, done.length() - 1);
            if (named.matches()) out.append(done).append('\n');
            out.append("ReadmeTest.due(\"").append(done.replace("\"", "\\\"")).append("\", ").append(asked).append(", ").append(answer).append(");\n");
        }
        return out.toString();
    }

    private static void testsAreNamed(String page) throws IOException {
        Set<String> there = new TreeSet<>(), named = new TreeSet<>();
        try (Stream<Path> files = Files.list(Path.of("src/test/java"))) {
            files.map(f -> f.getFileName().toString().replace(".java", "")).forEach(there::add);
        }
        Matcher name = Pattern.compile("`(\\w+Test|Model|Bench|Script)`").matcher(page);
        while (name.find()) named.add(name.group(1));
        due("tests named " + named + ", there are " + there, named.equals(there), true);
    }

    private static void remove(Path folder) throws IOException {
        try (Stream<Path> files = Files.list(folder)) {
            for (Path f : files.toList()) Files.delete(f);
        }
        Files.delete(folder);
    }
}
