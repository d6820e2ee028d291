import java.io.IOException;
import java.net.URL;
import java.net.URLClassLoader;
import java.nio.file.Files;
import java.nio.file.Path;
import java.util.ArrayList;
import java.util.List;
import java.util.regex.Matcher;
import java.util.regex.Pattern;
import java.util.stream.Stream;
import javax.tools.JavaCompiler;
import javax.tools.ToolProvider;

/** README.md: what it shows is compiled and run, each call with its answer behind it. */
public final class ReadmeTest {
    private static final Pattern BLOCK = Pattern.compile("```java\n(.*?)```", Pattern.DOTALL);
    private static final Pattern SHOWN = Pattern.compile("(?m)^(hill\\..*\\)); +// (-?[0-9]+)(:.*)?$");
    private static final Pattern LINE = Pattern.compile("(?m)^hill\\.");

    public static void main(String[] args) throws Exception {
        String page = Files.readString(Path.of("README.md"));
        Check.due("calls are shown with their answers", SHOWN.matcher(page).results().count(), LINE.matcher(page).results().count());
        Check.due("many calls are shown", LINE.matcher(page).results().count() > 30 ? 1 : 0, 1);
        runShown(shown(page));
        namesEveryTest(page);
        Check.end();
    }

    private static String shown(String page) {
        StringBuilder code = new StringBuilder();
        Matcher blocks = BLOCK.matcher(page);
        while (blocks.find()) {
            code.append(blocks.group(1));
        }
        return SHOWN.matcher(code).replaceAll(m -> Matcher.quoteReplacement(
                "told.add(new Object[] {\"" + m.group(1) + "\", (long) " + m.group(1) + ", " + m.group(2) + "L});"));
    }

    private static void runShown(String code) throws Exception {
        Path build = Files.createTempDirectory("readme");
        try {
            Path source = build.resolve("Shown.java");
            Files.writeString(source, "public class Shown {\npublic static void run(java.util.List<Object[]> told) {\n"
                    + code + "}\n}\n");
            JavaCompiler compiler = ToolProvider.getSystemJavaCompiler();
            String classes = System.getProperty("java.class.path");
            int wrong = compiler.run(null, null, null, "-cp", classes, "-d", build.toString(), source.toString());
            Check.due("what README.md shows is compiled", wrong, 0);
            if (wrong == 0) {
                compareAnswers(build);
            }
        } finally {
            remove(build);
        }
    }

    private static void compareAnswers(Path build) throws Exception {
        List<Object[]> told = new ArrayList<>();
        try (URLClassLoader loader = new URLClassLoader(new URL[] {build.toUri().toURL()})) {
            loader.loadClass("Shown").getMethod("run", List.class).invoke(null, told);
        }
        for (Object[] answer : told) {
            Check.due("README.md: " + answer[0], (long) answer[1], (long) answer[2]);
        }
    }

    private static void remove(Path directory) throws IOException {
        try (Stream<Path> files = Files.list(directory)) {
            for (Path file : (Iterable<Path>) files::iterator) {
                Files.delete(file);
            }
        }
        Files.delete(directory);
    }

    private static void namesEveryTest(String page) throws IOException {
        try (Stream<Path> files = Files.list(Path.of("src/test/java"))) {
            for (Path file : (Iterable<Path>) files::iterator) {
                String name = file.getFileName().toString().replace(".java", "");
                if (name.endsWith("Test")) {
                    Check.due("README.md names " + name, page.contains("`" + name + "`") ? 1 : 0, 1);
                }
            }
        }
    }
}
