import java.io.IOException;
import java.lang.reflect.Method;
import java.lang.reflect.Modifier;
import java.net.URL;
import java.net.URLClassLoader;
import java.nio.file.Files;
import java.nio.file.Path;
import java.util.Set;
import java.util.TreeSet;
import java.util.regex.Matcher;
import java.util.regex.Pattern;
import javax.tools.ToolProvider;

/** README.md says how to use the class: its example is run, and each call of the face must stand in it. */
public final class ReadmeTest {
    private static final Pattern ANSWERED = Pattern.compile("(?m)^(int (\\w+) = )?(x\\.[^;]*);( +// (-?\\d+):.*)$");

    public static void main(String[] args) throws IOException {
        String readme = Files.readString(Path.of("README.md"));
        String example = readme.substring(readme.indexOf("```java") + 7);
        String code = example.substring(0, example.indexOf("```"));
        Checks.test("README: the example answers what it says", () -> example(code));
        Checks.test("README: each call of the face stands in it", () -> calls(readme));
        Checks.test("README: how to run the tests", () -> Checks.holds(".ci/run", readme.contains("\n    .ci/run\n")));
        Checks.end();
    }

    /** Calls behind which a number and a colon stand are answered so. */
    private static void example(String code) {
        StringBuilder asking = new StringBuilder();
        int answers = 0;
        int at = 0;
        Matcher call = ANSWERED.matcher(code);
        while (call.find()) {
            asking.append(code, at, call.start());
            String due = "Checks.due(\"" + call.group(3) + "\", ";
            if (call.group(2) == null) {
                asking.append(due).append(call.group(3)).append(", ").append(call.group(5)).append(");");
            } else {
                asking.append(call.group(1)).append(call.group(3)).append(";\n");
                asking.append(due).append(call.group(2)).append(", ").append(call.group(5)).append(");");
            }
            at = call.end();
            answers++;
        }
        asking.append(code.substring(at));
        Checks.holds("answers were seen: " + answers, answers > 5);
        try {
            runs("public final class Example implements Runnable {\npublic void run() {" + asking + "}\n}\n");
        } catch (IOException | ReflectiveOperationException e) {
            Checks.fail("" + e);
        }
    }

    private static void runs(String program) throws IOException, ReflectiveOperationException {
        Path folder = Files.createTempDirectory("readme");
        Path source = folder.resolve("Example.java");
        Path made = folder.resolve("Example.class");
        try {
            Files.writeString(source, program.replace("Checks.due", "ReadmeTest.due"));
            String path = System.getProperty("java.class.path");
            int code = ToolProvider.getSystemJavaCompiler().run(null, null, null, "-cp", path, "-d", folder.toString(), source.toString());
            Checks.due("javac", code, 0);
            try (URLClassLoader loader = new URLClassLoader(new URL[] {folder.toUri().toURL()})) {
                ((Runnable) loader.loadClass("Example").getConstructor().newInstance()).run();
            }
        } finally {
            Files.deleteIfExists(source);
            Files.deleteIfExists(made);
            Files.deleteIfExists(folder);
        }
    }

    /** Open to the example, which another loader loads. */
    public static void due(String call, long got, long want) {
        Checks.due(call, got, want);
    }

    private static void calls(String readme) {
        Set<String> told = new TreeSet<>();
        Matcher call = Pattern.compile("`(\\w+)\\(([^)`]*)\\)`").matcher(readme);
        while (call.find()) {
            told.add(call.group(1) + " " + (call.group(2).isEmpty() ? 0 : call.group(2).split(",").length));
        }
        for (Method m : QuestionDesk.class.getDeclaredMethods()) {
            if (Modifier.isPublic(m.getModifiers()) && !m.isSynthetic()) {
                Checks.holds(m.getName() + " with " + m.getParameterCount(), told.contains(m.getName() + " " + m.getParameterCount()));
            }
        }
    }
}
