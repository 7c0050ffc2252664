import java.io.ByteArrayOutputStream;
import java.io.IOException;
import java.io.PrintStream;
import java.net.URI;
import java.net.URL;
import java.net.URLClassLoader;
import java.nio.file.Files;
import java.nio.file.Path;
import java.util.ArrayList;
import java.util.Comparator;
import java.util.List;
import java.util.regex.Matcher;
import java.util.regex.Pattern;
import java.util.stream.Stream;
import javax.tools.ToolProvider;

/** The example of README.md is a program, and prints the numbers that stand behind its lines. */
public final class ReadmeTest {
    private static final Pattern EXAMPLE = Pattern.compile("(?s)```java\n(.*?)```");
    private static final Pattern PRINTS = Pattern.compile("System\\.out\\.println\\((.*)\\);\\s*// (-?\\d+)");

    public static void main(String[] args) throws IOException, ReflectiveOperationException {
        String readme = Files.readString(Path.of("README.md"));
        Matcher example = EXAMPLE.matcher(readme);
        Check.yes("there is an example", example.find());
        List<String> told = new ArrayList<>();
        List<Long> due = new ArrayList<>();
        for (String line : example.group(1).split("\n")) {
            Matcher prints = PRINTS.matcher(line);
            Check.yes("an answer behind: " + line, !line.contains("println") || prints.find());
            if (line.contains("println")) {
                told.add(prints.group(1));
                due.add(Long.valueOf(prints.group(2)));
            }
        }
        String[] got = printed(example.group(1)).split("\\s+");
        Check.due("lines printed", got.length, due.size());
        for (int i = 0; i < Math.min(got.length, due.size()); i++) {
            Check.due("README.md: " + told.get(i), Long.parseLong(got[i]), due.get(i));
        }
        Check.yes("README.md tells the command that runs all tests", readme.contains("\n.ci/run\n"));
        everyTestIsTold(readme);
        Check.end("ReadmeTest");
    }

    private static void everyTestIsTold(String readme) throws IOException {
        try (Stream<Path> files = Files.list(Path.of("src/test/java"))) {
            files.map(file -> file.getFileName().toString()).filter(name -> name.endsWith("Test.java")).forEach(name ->
                Check.yes("README.md tells of " + name, readme.contains("`" + name.replace(".java", "") + "`")));
        }
    }

    private static String printed(String lines) throws IOException, ReflectiveOperationException {
        Path folder = Files.createTempDirectory("readme");
        PrintStream before = System.out;
        ByteArrayOutputStream out = new ByteArrayOutputStream();
        try {
            Path source = folder.resolve("Example.java");
            Files.writeString(source, "public class Example { public static void main(String[] args) {\n" + lines + "} }\n");
            String classes = System.getProperty("java.class.path");
            int failed = ToolProvider.getSystemJavaCompiler().run(null, null, null, "-cp", classes, "-d", folder.toString(), source.toString());
            Check.due("the example compiles", failed, 0);
            URI at = folder.toUri();
            try (URLClassLoader loader = new URLClassLoader(new URL[] {at.toURL()})) {
                System.setOut(new PrintStream(out, true));
                loader.loadClass("Example").getMethod("main", String[].class).invoke(null, (Object) new String[0]);
            }
        } finally {
            System.setOut(before);
            remove(folder);
        }
        return out.toString().trim();
    }

    private static void remove(Path folder) throws IOException {
        try (Stream<Path> files = Files.walk(folder)) {
            for (Path file : files.sorted(Comparator.reverseOrder()).toArray(Path[]::new)) {
                Files.delete(file);
            }
        }
    }
}
