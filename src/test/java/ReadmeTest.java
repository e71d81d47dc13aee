import java.io.IOException;
import java.nio.file.Files;
import java.nio.file.Path;
import java.util.List;
import javax.tools.ToolProvider;

/** The example of README.md compiles as it stands there, and prints what README.md says it does. */
public final class ReadmeTest {
    private static final List<String> DUE = List.of("2 1", "4 1", "4 2");

    public static void main(String[] args) throws Exception {
        Check check = new Check();
        String readme = Files.readString(Path.of("README.md"));
        for (String line : DUE) {
            check.due("README.md says " + line, readme.contains("`" + line + "`"), true);
        }
        Path directory = Files.createTempDirectory("readme");
        try {
            check.due("the example compiles", compile(example(readme), directory), 0);
            List<String> printed = run(directory);
            check.due("the example prints " + printed, printed.equals(DUE), true);
        } finally {
            clear(directory);
        }
        check.end();
    }

    private static String example(String readme) {
        String fence = "```";
        int start = readme.indexOf(fence + "java\n") + fence.length() + "java\n".length();
        return readme.substring(start, readme.indexOf(fence, start));
    }

    private static int compile(String lines, Path directory) throws IOException {
        Path source = directory.resolve("Example.java");
        Files.writeString(source, "class Example { public static void main(String[] args) {\n" + lines + "} }\n");
        return ToolProvider.getSystemJavaCompiler().run(null, null, null, "-cp",
                System.getProperty("java.class.path"), "-d", directory.toString(), source.toString());
    }

    /** A program of its own, for the example's class is not among those this one was started with. */
    private static List<String> run(Path directory) throws Exception {
        String classes = directory + System.getProperty("path.separator") + System.getProperty("java.class.path");
        Process process = new ProcessBuilder(
                Path.of(System.getProperty("java.home"), "bin", "java").toString(), "-cp", classes, "Example")
                .redirectErrorStream(true).start();
        String printed = new String(process.getInputStream().readAllBytes());
        process.waitFor();
        return printed.lines().toList();
    }

    private static void clear(Path directory) throws IOException {
        try (var files = Files.list(directory)) {
            for (Path file : files.toList()) {
                Files.delete(file);
            }
        }
        Files.delete(directory);
    }
}
