import java.io.IOException;
import java.net.URL;
import java.net.URLClassLoader;
import java.nio.file.Files;
import java.nio.file.Path;
import java.util.Comparator;
import java.util.List;
import java.util.regex.Matcher;
import java.util.regex.Pattern;
import java.util.stream.Stream;
import javax.tools.ToolProvider;

/** README.md: its examples compile, and each call in them answers what stands behind it. */
public final class ReadmeTest {
    private static final Check CHECK = new Check("ReadmeTest");
    private static final Pattern CALL = Pattern.compile("(x\\.\\w+\\(.*\\)); +// (?:throws (\\w+)|(-?\\d+)): .+");

    private static int examples;
    private static int calls;

    public static void main(String[] args) throws Exception {
        StringBuilder code = new StringBuilder("public final class ReadmeRun {\n");
        List<String> lines = Files.readAllLines(Path.of("README.md"));
        boolean isInside = false;
        for (String line : lines) {
            if (line.equals("```java")) {
                isInside = true;
                examples++;
                code.append("public static void example").append(examples).append("() {\n");
            } else if (isInside && line.equals("```")) {
                isInside = false;
                code.append("}\n");
            } else if (isInside) {
                code.append(checked(line)).append('\n');
            }
        }
        CHECK.same("there are examples with calls", 1, examples > 0 && calls > 0 ? 1 : 0);
        run(code.append("}\n").toString());
        CHECK.end();
    }

    /** Called by the examples. */
    public static void answered(String call, long due, long got) {
        CHECK.same("README.md: " + call, due, got);
    }

    /** Called by the examples. */
    public static void threw(String call, String due, Runnable run) {
        String thrown = "nothing";
        try {
            run.run();
        } catch (RuntimeException e) {
            thrown = e.getClass().getSimpleName();
        }
        CHECK.same("README.md: " + call + " throws", due, thrown);
    }

    private static String checked(String line) {
        Matcher matcher = CALL.matcher(line);
        if (!matcher.matches()) {
            // what stands behind a call must not be missed for the way it is written
            CHECK.same("README.md: " + line + " tells an answer", 0, line.contains("//") ? 1 : 0);
            return line;
        }
        calls++;
        String call = matcher.group(1);
        String told = call.replace("\\", "\\\\").replace("\"", "\\\"");
        if (matcher.group(2) != null) {
            return "ReadmeTest.threw(\"" + told + "\", \"" + matcher.group(2) + "\", () -> " + call + ");";
        }
        return "ReadmeTest.answered(\"" + told + "\", " + matcher.group(3) + "L, " + call + ");";
    }

    private static void run(String code) throws Exception {
        Path folder = Files.createTempDirectory("readme");
        try {
            Path source = folder.resolve("ReadmeRun.java");
            Files.writeString(source, code);
            int failed = ToolProvider.getSystemJavaCompiler().run(null, null, null, "--release", "17", "-cp",
                    System.getProperty("java.class.path"), "-d", folder.toString(), source.toString());
            CHECK.same("the examples of README.md compile", 0, failed);
            if (failed == 0) {
                runExamples(folder);
            }
        } finally {
            delete(folder);
        }
    }

    private static void runExamples(Path folder) throws Exception {
        try (URLClassLoader loader = new URLClassLoader(new URL[] {folder.toUri().toURL()})) {
            Class<?> run = loader.loadClass("ReadmeRun");
            for (int i = 1; i <= examples; i++) {
                run.getMethod("example" + i).invoke(null);
            }
        }
    }

    private static void delete(Path folder) throws IOException {
        try (Stream<Path> files = Files.walk(folder)) {
            for (Path file : files.sorted(Comparator.reverseOrder()).toList()) {
                Files.delete(file);
            }
        }
    }
}
