import java.io.IOException;
import java.lang.reflect.Method;
import java.lang.reflect.Modifier;
import java.net.URL;
import java.net.URLClassLoader;
import java.nio.file.Files;
import java.nio.file.Path;
import java.util.List;
import java.util.regex.Matcher;
import java.util.regex.Pattern;
import java.util.stream.Collectors;
import java.util.stream.Stream;
import javax.tools.JavaCompiler;
import javax.tools.ToolProvider;

/** README.md holds what it tells: its example compiles and answers as told, and nothing that it should name is left out. */
public final class ReadmeTest {
    private static final Pattern TOLD = Pattern.compile("^(hill\\.\\w+\\(.*\\)); +// (-?\\d+)[ :].*$");
    private static int told = 0;

    private ReadmeTest() {
    }

    public static void main(String[] args) throws Exception {
        Path readme = Path.of(System.getProperty("readme", "README.md"));
        String text = Files.readString(readme);
        Path made = Files.createTempDirectory("readme");
        try {
            example(text, made);
        } finally {
            clear(made);
        }
        Check.holds("most calls of the example were held against what is told: " + told, told >= 15);
        named(text, readme.toAbsolutePath().getParent().resolve("src/test/java"));
        Check.end();
    }

    /** The example calls this from a class of its own. */
    public static void due(String call, long got, long want) {
        told++;
        Check.due("README's " + call, got, want);
    }

    private static void example(String text, Path made) throws Exception {
        int from = text.indexOf("```java\n") + "```java\n".length();
        int to = text.indexOf("```", from);
        Check.holds("an example stands there", from < to);
        StringBuilder source = new StringBuilder("public class Example { public static void run() {\n");
        for (String line : text.substring(from, to).split("\n")) {
            Matcher m = TOLD.matcher(line);
            source.append(m.matches() ? asked(m.group(1), m.group(2)) : line).append('\n');
        }
        Files.writeString(made.resolve("Example.java"), source.append("} }\n"));
        JavaCompiler compiler = ToolProvider.getSystemJavaCompiler();
        int wrong = compiler.run(null, null, null, "-cp", System.getProperty("java.class.path"), "-d", made.toString(),
            made.resolve("Example.java").toString());
        Check.due("errors of the example", wrong, 0);
        if (wrong == 0) {
            try (URLClassLoader loader = new URLClassLoader(new URL[] {made.toUri().toURL()})) {
                loader.loadClass("Example").getMethod("run").invoke(null);
            }
        }
    }

    private static String asked(String call, String want) {
        return "ReadmeTest.due(\"" + call + "\", " + call + ", " + want + "L);";
    }

    private static void named(String text, Path tests) throws IOException {
        for (Method m : MorningBite.class.getDeclaredMethods()) {
            Check.holds("README names the call " + m.getName(), !Modifier.isPublic(m.getModifiers())
                || text.contains("`" + m.getName() + "`"));
        }
        for (Class<?> inner : MorningBite.class.getDeclaredClasses()) {
            Check.holds("README names the class " + inner, text.contains("| `" + inner.getSimpleName() + "` |"));
        }
        try (Stream<Path> files = Files.list(tests)) {
            List<String> names = files.map(f -> f.getFileName().toString().replace(".java", ""))
                .filter(f -> f.endsWith("Test")).collect(Collectors.toList());
            Check.holds("tests are found", !names.isEmpty());
            for (String name : names) {
                Check.holds("README names the test " + name, text.contains("| `" + name + "` |"));
            }
        }
    }

    private static void clear(Path made) throws IOException {
        try (Stream<Path> files = Files.list(made)) {
            for (Path file : files.collect(Collectors.toList())) {
                Files.delete(file);
            }
        }
        Files.delete(made);
    }
}
