import java.io.File;
import java.io.IOException;
import java.net.URL;
import java.net.URLClassLoader;
import java.nio.file.Files;
import java.nio.file.Path;
import java.util.ArrayList;
import java.util.List;
import java.util.regex.Matcher;
import java.util.regex.Pattern;
import java.util.stream.Stream;
import javax.tools.ToolProvider;

/** The example of README.md compiles, and each of its calls answers what stands behind it. */
public final class ReadmeTest {
    private static final Path README = Path.of("README.md");
    private static final Pattern ANSWERED = Pattern.compile("(?:int|long|double) (\\w+) = .*; +// (-?[0-9.]+)(?:;.*)?");

    public static void main(String[] args) throws Exception {
        List<String> lines = example();
        List<String> names = new ArrayList<>();
        List<String> due = new ArrayList<>();
        for (String line : lines) {
            Matcher answered = ANSWERED.matcher(line);
            if (answered.matches()) {
                names.add(answered.group(1));
                due.add(answered.group(1) + " = " + answered.group(2));
            } else if (line.matches("(int|long|double) .*")) {
                Check.report("the example", line, "a call with its answer behind //");
            }
        }
        Check.due("the example has calls with answers", names.isEmpty() ? 0 : 1, 1);
        Check.same("the example", run(sourceOf(lines, names)), String.join("\n", due));
        Check.end("ReadmeTest");
    }

    private static List<String> example() throws IOException {
        List<String> lines = new ArrayList<>();
        boolean inside = false;
        for (String line : Files.readAllLines(README)) {
            if (line.startsWith("```")) {
                inside = line.equals("```java");
            } else if (inside) {
                lines.add(line);
            }
        }
        return lines;
    }

    private static String sourceOf(List<String> lines, List<String> names) {
        StringBuilder source = new StringBuilder("public final class Example {\npublic static String told() {\n");
        lines.forEach(line -> source.append(line).append('\n'));
        source.append("return String.join(\"\\n\"");
        names.forEach(name -> source.append(", \"").append(name).append(" = \" + ").append(name));
        return source.append(");\n}\n}\n").toString();
    }

    private static String run(String source) throws Exception {
        Path folder = Files.createTempDirectory("readme");
        try {
            Path file = Files.writeString(folder.resolve("Example.java"), source);
            int refused = ToolProvider.getSystemJavaCompiler().run(null, null, null,
                    "-cp", System.getProperty("java.class.path"), "-d", folder.toString(), file.toString());
            if (refused != 0) {
                return "not compiled";
            }
            try (URLClassLoader loader = new URLClassLoader(new URL[] {folder.toUri().toURL()})) {
                return (String) loader.loadClass("Example").getMethod("told").invoke(null);
            }
        } finally {
            delete(folder);
        }
    }

    private static void delete(Path folder) throws IOException {
        try (Stream<Path> files = Files.list(folder)) {
            files.map(Path::toFile).forEach(File::delete);
        }
        Files.delete(folder);
    }
}
