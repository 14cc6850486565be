import java.io.File;
import java.io.IOException;
import java.lang.reflect.Method;
import java.lang.reflect.Modifier;
import java.nio.file.Files;
import java.nio.file.Path;
import java.util.ArrayList;
import java.util.List;
import java.util.regex.Matcher;
import java.util.regex.Pattern;
import javax.tools.ToolProvider;

/** README.md's examples answer what they say, and it tells of every call of the face. */
final class ReadmeTest {
    /** A call, whose answer may be kept, and the number behind it that is due. */
    private static final Pattern CALL =
            Pattern.compile("((?:int \\w+ = )?)(mill\\..*);\\s*//\\s*(-?\\d+)\\b.*");
    private static final String EXAMPLE = "ReadmeExample";

    private static int calls;

    public static void main(String[] args) throws IOException, InterruptedException {
        List<String> readme = Files.readAllLines(Path.of("README.md"));
        List<String> examples = examplesOf(readme);
        Expect.due("examples in README.md", examples.size(), 2);
        Expect.yes("most calls of the examples tell their answers", calls >= 20);
        for (String example : examples) {
            runExample(example);
        }
        tellsEveryCall(String.join("\n", readme));
        Expect.end();
    }

    private static List<String> examplesOf(List<String> lines) {
        List<String> examples = new ArrayList<>();
        StringBuilder example = null;
        for (String line : lines) {
            if (line.equals("```java")) {
                example = new StringBuilder();
            } else if (line.equals("```") && example != null) {
                examples.add(example.toString());
                example = null;
            } else if (example != null) {
                example.append(asTest(line)).append('\n');
            }
        }
        return examples;
    }

    private static String asTest(String line) {
        Matcher call = CALL.matcher(line);
        if (!call.matches()) {
            return line;
        }
        calls++;
        String answer = "answer" + calls;
        String kept = call.group(1).isEmpty() ? "" : call.group(1) + answer + "; ";
        return "int " + answer + " = " + call.group(2) + "; " + kept
                + "Expect.due(\"README.md: " + call.group(2) + "\", " + answer + ", " + call.group(3) + ");";
    }

    /** In a process of its own: only there has the example the tests' own package. */
    private static void runExample(String body) throws IOException, InterruptedException {
        Path folder = Files.createTempDirectory("readme");
        Path source = folder.resolve(EXAMPLE + ".java");
        Path made = folder.resolve(EXAMPLE + ".class");
        Files.writeString(source, "final class " + EXAMPLE + " {\npublic static void main(String[] args) {\n"
                + body + "Expect.end();\n}\n}\n");
        String path = System.getProperty("java.class.path");
        int refused = ToolProvider.getSystemJavaCompiler().run(null, null, null, "-proc:none", "-cp", path,
                "-d", folder.toString(), source.toString());
        Expect.due("what javac says of an example", refused, 0);
        if (refused == 0) {
            Process process = new ProcessBuilder("java", "-cp", folder + File.pathSeparator + path, EXAMPLE)
                    .inheritIO().start();
            Expect.due("an example's exit code", process.waitFor(), 0);
        }
        Files.deleteIfExists(made);
        Files.deleteIfExists(source);
        Files.deleteIfExists(folder);
    }

    private static void tellsEveryCall(String readme) {
        for (Method method : TypedMill.class.getDeclaredMethods()) {
            if (Modifier.isPublic(method.getModifiers())) {
                Expect.yes("README.md tells of " + method.getName(), readme.contains("| `" + method.getName() + "("));
            }
        }
    }
}
