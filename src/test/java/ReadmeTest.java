import java.io.IOException;
import java.lang.reflect.Method;
import java.lang.reflect.Modifier;
import java.net.URL;
import java.net.URLClassLoader;
import java.nio.file.Files;
import java.nio.file.Path;
import java.util.ArrayList;
import java.util.List;
import java.util.regex.Matcher;
import java.util.regex.Pattern;
import java.util.stream.Stream;
import javax.tools.ToolProvider;

/** README.md: its example is compiled and run, and its tables name every call and every test. */
public final class ReadmeTest {
    private static final Path README = Path.of("README.md");
    private static final Path TESTS = Path.of("src/test/java");
    private static final Pattern ANSWERED = Pattern.compile(
            "(?:int (\\w+) = )?(office\\.\\w+\\(.*\\)); +// (NONE|true|false|\\d+)(?:: .*)?");

    public static void main(String[] args) throws Exception {
        String text = Files.readString(README);
        example(text);
        everyCall(text);
        everyTest(text);
        Check.finish();
    }

    private static List<String> exampleLines(String text) {
        int start = text.indexOf("```java\n") + "```java\n".length();
        return text.substring(start, text.indexOf("```", start)).lines().toList();
    }

    private static void example(String text) throws Exception {
        List<String> answered = new ArrayList<>();
        StringBuilder body = new StringBuilder();
        for (String line : exampleLines(text)) {
            Matcher m = ANSWERED.matcher(line);
            if (!m.matches()) {
                body.append(line).append('\n');
                continue;
            }
            String got = m.group(1) == null ? m.group(2) : m.group(1);
            body.append(m.group(1) == null ? "" : line + "\n");
            body.append("answers.add(\"\" + ").append(got).append(");\n");
            answered.add(m.group(3).equals("NONE") ? "-1" : m.group(3));
        }
        List<?> got = run(body.toString());
        Check.yes("the example has answers", answered.size() > 20);
        Check.yes("the example: due " + answered + ", not " + got, answered.equals(got));
    }

    private static List<?> run(String body) throws Exception {
        Path made = Files.createTempDirectory("readme");
        Path source = made.resolve("ReadmeExample.java");
        Files.writeString(source, "public class ReadmeExample {\n"
                + "public static java.util.List<String> run() {\n"
                + "java.util.List<String> answers = new java.util.ArrayList<>();\n"
                + body + "return answers;\n}\n}\n");
        int wrong = ToolProvider.getSystemJavaCompiler().run(null, null, null, "-d", made.toString(),
                "-cp", System.getProperty("java.class.path"), source.toString());
        Check.is("the example compiles", 0, wrong);
        try (URLClassLoader loader = new URLClassLoader(new URL[] {made.toUri().toURL()})) {
            return (List<?>) loader.loadClass("ReadmeExample").getMethod("run").invoke(null);
        } finally {
            delete(made);
        }
    }

    private static void delete(Path folder) throws IOException {
        try (Stream<Path> files = Files.list(folder)) {
            for (Path file : files.toList()) {
                Files.delete(file);
            }
        }
        Files.delete(folder);
    }

    private static void everyCall(String text) {
        for (Method m : ParkOffice.class.getDeclaredMethods()) {
            if (Modifier.isPublic(m.getModifiers())) {
                Check.yes("names the call " + m.getName(), text.contains("`" + m.getName() + "`"));
            }
        }
    }

    private static void everyTest(String text) throws IOException {
        try (Stream<Path> files = Files.list(TESTS)) {
            for (Path file : files.toList()) {
                String name = file.getFileName().toString().replace(".java", "");
                Check.yes("names the test " + name, text.contains("`" + name + "`"));
            }
        }
    }
}
