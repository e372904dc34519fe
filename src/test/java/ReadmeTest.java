import java.io.IOException;
import java.net.URL;
import java.net.URLClassLoader;
import java.nio.file.Files;
import java.nio.file.Path;
import java.util.ArrayList;
import java.util.List;
import java.util.function.Supplier;
import java.util.regex.Matcher;
import java.util.regex.Pattern;
import javax.tools.ToolProvider;

/** What README.md shows is so: each call there answers what stands behind it, and each file that it names is there. */
public final class ReadmeTest {
    private static final Path README = Path.of("README.md");
    /** A call, perhaps with a name for its answer, and the answer up to the first comma. */
    private static final Pattern SHOWN = Pattern.compile("\\s*(\\w+ (\\w+) = )?(.+); +// ([^,]+)(,.*)?");
    private static final Pattern FILE = Pattern.compile("`([\\w./]+\\.(java|md)|\\.\\./[\\w/]+)`");

    private final List<String> lines = new ArrayList<>();
    private final List<String> due = new ArrayList<>();
    private final StringBuilder program = new StringBuilder();

    public static void main(String[] args) throws IOException, ReflectiveOperationException {
        String text = Files.readString(README);
        Matcher file = FILE.matcher(text);
        while (file.find()) {
            String name = file.group(1);
            Check.due(true, "README.md names " + name, () -> Files.exists(Path.of(name)));
        }
        ReadmeTest test = new ReadmeTest();
        test.write(text.lines().toList());
        List<String> answers = test.run();
        Check.due(test.due.size(), "calls that README.md shows an answer of", () -> answers.size());
        for (int i = 0; i < Math.min(test.due.size(), answers.size()); i++) {
            int index = i;
            Check.due(test.due.get(i), test.lines.get(i), () -> answers.get(index));
        }
        Check.due(true, "README.md shows calls", () -> test.due.size() > 0);
        Check.end();
    }

    /** Writes a program of all lines between ```java and ``` that notes the answer where one is shown. */
    private void write(List<String> readme) {
        program.append("public class ReadmeExample implements java.util.function.Supplier<java.util.List<String>> {\n");
        program.append("public java.util.List<String> get() {\n");
        program.append("java.util.List<String> answers = new java.util.ArrayList<>();\n");
        boolean isCode = false;
        for (String line : readme) {
            if (line.startsWith("```")) {
                isCode = line.equals("```java");
            } else if (isCode) {
                writeLine(line);
            }
        }
        program.append("return answers;\n}\n}\n");
    }

    private void writeLine(String line) {
        Matcher shown = SHOWN.matcher(line);
        if (!shown.matches()) {
            program.append(line).append('\n');
            return;
        }
        lines.add(line.strip());
        due.add(shown.group(4).strip());
        if (shown.group(2) != null) {
            program.append(line).append("\nanswers.add(String.valueOf(").append(shown.group(2)).append("));\n");
            return;
        }
        program.append("try {\nanswers.add(String.valueOf(").append(shown.group(3).strip()).append("));\n");
        program.append("} catch (RuntimeException e) {\n");
        program.append("answers.add(\"throws \" + e.getClass().getSimpleName());\n}\n");
    }

    @SuppressWarnings("unchecked")
    private List<String> run() throws IOException, ReflectiveOperationException {
        Path directory = Files.createTempDirectory("readme");
        Path source = directory.resolve("ReadmeExample.java");
        Path compiled = directory.resolve("ReadmeExample.class");
        try {
            Files.writeString(source, program);
            String classes = System.getProperty("java.class.path");
            int code = ToolProvider.getSystemJavaCompiler().run(null, null, null, "-cp", classes, source.toString());
            Check.due(0, "compiling what README.md shows", () -> code);
            try (URLClassLoader loader = new URLClassLoader(new URL[] {directory.toUri().toURL()})) {
                Object shown = loader.loadClass("ReadmeExample").getConstructor().newInstance();
                return ((Supplier<List<String>>) shown).get();
            }
        } finally {
            Files.deleteIfExists(compiled);
            Files.deleteIfExists(source);
            Files.deleteIfExists(directory);
        }
    }
}
