import java.io.File;
import java.io.IOException;
import java.lang.reflect.Method;
import java.lang.reflect.Modifier;
import java.nio.charset.StandardCharsets;
import java.nio.file.Files;
import java.nio.file.Path;
import java.util.ArrayList;
import java.util.Comparator;
import java.util.List;
import java.util.regex.Matcher;
import java.util.regex.Pattern;
import java.util.stream.Stream;

/** README.md: its example compiles and prints what stands behind its lines, and its table has every method once. */
public final class ReadmeTest {
    private static final Pattern EXAMPLE = Pattern.compile("(?s)```java\n(.*?)```");
    private static final Pattern PRINTED = Pattern.compile("print\\(.*\\);\\s+// ([^:\n]*)");
    private static final Pattern ROW = Pattern.compile("(?m)^\\| `(\\w+)\\((.*?)\\)` \\|");

    public static void main(String[] args) throws Exception {
        String readme = Files.readString(Path.of("README.md"));
        Matcher block = EXAMPLE.matcher(readme);
        boolean found = block.find();
        Check.due("an example in README.md", found ? 1 : 0, 1);
        if (found) {
            example(block.group(1));
        }
        methods(readme);
        Check.finish();
    }

    private static void example(String source) throws Exception {
        List<String> told = new ArrayList<>();
        for (Matcher line = PRINTED.matcher(source); line.find();) {
            told.add(line.group(1).strip());
        }
        List<String> printed = printedBy(source);
        Check.due("the lines that the example prints", printed.size(), told.size());
        for (int i = 0; i < Math.min(printed.size(), told.size()); i++) {
            Check.due("the line " + i + " of the example", printed.get(i), told.get(i));
        }
    }

    private static List<String> printedBy(String source) throws Exception {
        Path directory = Files.createTempDirectory("readme");
        try {
            String file = Files.writeString(directory.resolve("Example.java"), source).toString();
            String classes = System.getProperty("java.class.path");
            run("javac", "-cp", classes, "-d", directory.toString(), file);
            return run("java", "-cp", classes + File.pathSeparator + directory, "Example");
        } finally {
            remove(directory);
        }
    }

    private static List<String> run(String... command) throws IOException, InterruptedException {
        Process process = new ProcessBuilder(command).redirectError(ProcessBuilder.Redirect.INHERIT).start();
        String printed = new String(process.getInputStream().readAllBytes(), StandardCharsets.UTF_8);
        Check.due("the exit code of " + command[0], process.waitFor(), 0);
        return printed.lines().toList();
    }

    private static void remove(Path directory) throws IOException {
        try (Stream<Path> files = Files.walk(directory)) {
            for (Path file : files.sorted(Comparator.reverseOrder()).toList()) {
                Files.delete(file);
            }
        }
    }

    private static void methods(String readme) {
        List<String> rows = new ArrayList<>();
        for (Matcher row = ROW.matcher(readme); row.find();) {
            rows.add(row.group(1) + " " + (row.group(2).isEmpty() ? 0 : row.group(2).split(",").length));
        }
        List<String> face = new ArrayList<>();
        for (Method method : RingReadings.class.getDeclaredMethods()) {
            if (Modifier.isPublic(method.getModifiers())) {
                face.add(method.getName() + " " + method.getParameterCount());
            }
        }
        rows.sort(null);
        face.sort(null);
        Check.due("the methods of README.md, and how many arguments they have", rows.toString(), face.toString());
    }
}
