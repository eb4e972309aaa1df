import java.io.IOException;
import java.lang.reflect.Method;
import java.lang.reflect.Modifier;
import java.nio.file.Files;
import java.nio.file.Path;
import java.util.Set;
import java.util.TreeSet;
import java.util.regex.Matcher;
import java.util.regex.Pattern;
import javax.tools.JavaCompiler;
import javax.tools.ToolProvider;

/** README.md tells every call of the face with its exceptions, and its example answers what stands behind its lines. */
public final class ReadmeTest {
    private static final Pattern ROW =
            Pattern.compile("^\\| `(\\w+)\\((.*?)\\)` \\| .+ \\|(.*)\\|$", Pattern.MULTILINE);
    private static final Pattern EXAMPLE = Pattern.compile("```java\n(.*?)```", Pattern.DOTALL);
    private static final Pattern LINE = Pattern.compile("(int \\w+ = )?(.+); +// (answers|throws) ([^:]+): .+");
    private static final int FEWEST_LINES = 20;

    private static final Checks CHECKS = new Checks("ReadmeTest");

    private ReadmeTest() {
    }

    public static void main(String[] args) throws IOException, ReflectiveOperationException {
        String readme = Files.readString(Path.of("README.md"));
        CHECKS.due("the calls in README.md", callsOfReadme(readme), callsOfFace());
        CHECKS.due(".ci/run is named", readme.contains("    .ci/run\n"), true);
        Matcher matcher = EXAMPLE.matcher(readme);
        boolean hasExample = matcher.find();
        CHECKS.due("there is an example", hasExample, true);
        if (hasExample) {
            runExample(matcher.group(1));
        }
        CHECKS.end();
    }

    private static Set<String> callsOfReadme(String readme) {
        Set<String> calls = new TreeSet<>();
        Matcher matcher = ROW.matcher(readme);
        while (matcher.find()) {
            int parameters = matcher.group(2).isEmpty() ? 0 : matcher.group(2).split(", ").length;
            calls.add(matcher.group(1) + " " + parameters + " " + matcher.group(3).trim());
        }
        return calls;
    }

    private static Set<String> callsOfFace() {
        Set<String> calls = new TreeSet<>();
        for (Method method : OrchardRopeway.class.getDeclaredMethods()) {
            if (Modifier.isPublic(method.getModifiers())) {
                StringBuilder thrown = new StringBuilder();
                for (Class<?> type : method.getExceptionTypes()) {
                    thrown.append(thrown.length() > 0 ? ", " : "").append(type.getSimpleName());
                }
                calls.add(method.getName() + " " + method.getParameterCount() + " " + thrown);
            }
        }
        return calls;
    }

    /** The example is compiled as it stands, so that it can't show what javac refuses. */
    private static void runExample(String example) throws IOException, ReflectiveOperationException {
        String folder = System.getProperty("java.class.path");
        Path source = Path.of(folder, "ReadmeExample.java");
        Files.writeString(source, "import java.util.NoSuchElementException;\n"
                + "final class ReadmeExample {\n    static void run(Checks checks) {\n"
                + withChecks(example) + "    }\n}\n");
        JavaCompiler compiler = ToolProvider.getSystemJavaCompiler();
        int code = compiler == null ? -1 : compiler.run(null, null, null, "--release", "17", "-encoding", "UTF-8",
                "-cp", folder, "-d", folder, source.toString());
        CHECKS.due("the exit code of javac for the example", code, 0);
        if (code == 0) {
            Class.forName("ReadmeExample").getDeclaredMethod("run", Checks.class).invoke(null, CHECKS);
        }
    }

    private static String withChecks(String example) {
        StringBuilder text = new StringBuilder();
        int checked = 0;
        for (String line : example.split("\n")) {
            Matcher matcher = LINE.matcher(line);
            if (matcher.matches()) {
                text.append(check(matcher.group(1), matcher.group(2), matcher.group(3), matcher.group(4)));
                checked++;
            } else {
                CHECKS.due("a line without an answer: " + line, line.contains("//"), false);
                text.append(line).append('\n');
            }
        }
        CHECKS.due("the example has answers", checked >= FEWEST_LINES, true);
        return text.toString();
    }

    private static String check(String declaration, String call, String outcome, String due) {
        String name = "\"" + call.replace("\"", "\\\"") + "\"";
        if (outcome.equals("throws")) {
            return "checks.refused(" + name + ", " + due + ".class, () -> " + call + ");\n";
        }
        if (declaration == null) {
            return "checks.due(" + name + ", " + call + ", " + due + ");\n";
        }
        String variable = declaration.split(" ")[1];
        return declaration + call + ";\nchecks.due(" + name + ", " + variable + ", " + due + ");\n";
    }
}
