import java.io.IOException;
import java.nio.file.Files;
import java.nio.file.Path;
import java.util.List;
import java.util.regex.Matcher;
import java.util.regex.Pattern;
import javax.tools.ToolProvider;

/** Compiles and runs the examples of README.md; a number behind a line is the answer that the call of it must give. */
public final class ReadmeTest {
    private static final Pattern EXAMPLE = Pattern.compile("```java\n(.*?)```", Pattern.DOTALL);
    private static final Pattern ANSWER = Pattern.compile("^(?:int|long) (\\w+) = .*; +// (-?\\d+)\\b.*$");

    private static int answers;

    private ReadmeTest() {
    }

    public static void main(String[] args) throws Exception {
        Matcher example = EXAMPLE.matcher(Files.readString(Path.of("README.md")));
        int examples = 0;
        while (example.find()) {
            examples++;
            run("Example" + examples, program(example.group(1)));
        }
        Expect.due("there are examples", examples > 0 ? 1 : 0, 1);
        Expect.due("there are answers", answers > 0 ? 1 : 0, 1);
        Expect.end();
    }

    private static String program(String lines) {
        StringBuilder program = new StringBuilder();
        for (String line : lines.split("\n")) {
            program.append(line).append('\n');
            Matcher answer = ANSWER.matcher(line);
            if (answer.matches()) {
                answers++;
                program.append(String.format("Expect.due(\"README.md: %s\", %s, %sL);%n",
                        line.replace("\\", "\\\\").replace("\"", "\\\""), answer.group(1), answer.group(2)));
            }
        }
        return program.toString();
    }

    /** In this machine, so that Expect counts what the example finds wrong. */
    private static void run(String name, String program) throws Exception {
        Path work = Files.createTempDirectory("readme");
        Path source = work.resolve(name + ".java");
        Path classes = Path.of(ReadmeTest.class.getProtectionDomain().getCodeSource().getLocation().toURI());
        try {
            Files.writeString(source, "public final class " + name + " { public static void main(String[] args) {\n"
                    + program + "} }\n");
            int failed = ToolProvider.getSystemJavaCompiler().run(null, null, null,
                    "-cp", classes.toString(), "-d", classes.toString(), source.toString());
            Expect.due("compiling " + name + " of README.md", failed, 0);
            if (failed == 0) {
                Class.forName(name).getMethod("main", String[].class).invoke(null, (Object) new String[0]);
            }
        } finally {
            remove(List.of(source, work));
        }
    }

    private static void remove(List<Path> paths) throws IOException {
        for (Path path : paths) {
            Files.deleteIfExists(path);
        }
    }
}
