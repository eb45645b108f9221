import java.io.IOException;
import java.lang.reflect.InvocationTargetException;
import java.net.URL;
import java.net.URLClassLoader;
import java.nio.file.Files;
import java.nio.file.Path;
import java.util.ArrayList;
import java.util.List;
import java.util.Set;
import java.util.TreeSet;
import java.util.regex.Matcher;
import java.util.regex.Pattern;
import java.util.stream.Stream;
import javax.tools.JavaCompiler;
import javax.tools.ToolProvider;

/** What README.md says is so: the answers of its examples, its findings, and its list of tests. */
public final class ReadmeTest {
    private static final Path TESTS = Path.of("src/test/java");
    private static final Pattern CALL = Pattern.compile("(int \\w+ = )?(\\w+\\.\\w+\\(.*\\)); *// (-?\\d+): .*");
    private static int wrong;

    public static void main(String[] args) throws IOException, ReflectiveOperationException {
        String text = Files.readString(Path.of("README.md"));
        theExamples(text);
        theFindings(text);
        theListOfTests(text);
        howTheyAreRun(text);
        System.out.println(wrong == 0 ? "as due" : wrong + " things are not as README.md says");
        if (wrong != 0) {
            System.exit(1);
        }
    }

    private static void holds(boolean holds, String what) {
        if (!holds) {
            wrong++;
            System.out.println("README.md: " + what);
        }
    }

    private static void theExamples(String text) throws IOException, ReflectiveOperationException {
        StringBuilder body = new StringBuilder();
        List<String> calls = new ArrayList<>();
        List<Integer> told = new ArrayList<>();
        Matcher blocks = Pattern.compile("(?s)```java\n(.*?)```").matcher(text);
        while (blocks.find()) {
            for (String line : blocks.group(1).split("\n")) {
                Matcher call = CALL.matcher(line);
                if (call.matches()) {
                    calls.add(call.group(2));
                    told.add(Integer.valueOf(call.group(3)));
                    body.append(answered(call)).append('\n');
                } else {
                    holds(!line.contains("//"), "a remark without an answer: " + line);
                    body.append(line).append('\n');
                }
            }
        }
        holds(!calls.isEmpty(), "has an example");
        List<?> answers = answersOf(body.toString());
        holds(answers.size() == told.size(), "every call of the examples answers once");
        for (int i = 0; i < Math.min(answers.size(), told.size()); i++) {
            holds(answers.get(i).equals(told.get(i)), calls.get(i) + " answers " + answers.get(i) + ", not " + told.get(i));
        }
    }

    /** The call as it stands, with its answer kept. */
    private static String answered(Matcher call) {
        String kept = "answers.add(" + call.group(2) + ");";
        return call.group(1) == null ? kept : call.group(1) + call.group(2) + "; answers.add("
                + call.group(1).replace("int ", "").replace(" = ", "") + ");";
    }

    private static List<?> answersOf(String body) throws IOException, ReflectiveOperationException {
        Path dir = Files.createTempDirectory("readme");
        try {
            Path file = dir.resolve("ReadmeExample.java");
            Files.writeString(file, "public class ReadmeExample {\n"
                    + "public static java.util.List<Integer> answers() {\n"
                    + "java.util.List<Integer> answers = new java.util.ArrayList<>();\n" + body + "return answers;\n}\n}\n");
            JavaCompiler compiler = ToolProvider.getSystemJavaCompiler();
            String classes = System.getProperty("java.class.path");
            boolean compiled = compiler != null
                    && compiler.run(null, null, null, "-cp", classes, "-d", dir.toString(), file.toString()) == 0;
            holds(compiled, "its examples compile");
            return compiled ? run(dir) : List.of();
        } finally {
            remove(dir);
        }
    }

    private static List<?> run(Path dir) throws IOException, ReflectiveOperationException {
        try (URLClassLoader loader = new URLClassLoader(new URL[] {dir.toUri().toURL()})) {
            return (List<?>) loader.loadClass("ReadmeExample").getMethod("answers").invoke(null);
        } catch (InvocationTargetException e) {
            holds(false, "an example threw " + e.getCause());
            return List.of();
        }
    }

    private static void remove(Path dir) throws IOException {
        for (Path file : filesIn(dir)) {
            Files.delete(file);
        }
        Files.delete(dir);
    }

    private static List<Path> filesIn(Path dir) throws IOException {
        try (Stream<Path> files = Files.list(dir)) {
            return files.toList();
        }
    }

    private static void theFindings(String text) {
        String[] names = {"BEYOND", "NONE", "STATE", "FULL", "KIND"};
        for (int k = 1; k <= names.length; k++) {
            holds(text.contains("| " + (-1000000000 - k) + " | " + names[k - 1] + " |"), "tells of " + names[k - 1]);
        }
    }

    private static void theListOfTests(String text) throws IOException {
        Set<String> listed = new TreeSet<>();
        Matcher names = Pattern.compile("`(\\w+Test)`").matcher(text.substring(text.indexOf("## Tests")));
        while (names.find()) {
            holds(listed.add(names.group(1)), names.group(1) + " is listed once");
        }
        Set<String> there = new TreeSet<>();
        for (Path file : filesIn(TESTS)) {
            String name = file.getFileName().toString().replace(".java", "");
            boolean runs = Files.readString(file).contains("public static void main(");
            holds(runs == name.endsWith("Test"), name + " is named as .ci/run wants it");
            holds(runs || text.contains("`" + name + "`"), "tells of " + name);
            if (runs) {
                there.add(name);
            }
        }
        holds(listed.equals(there), "lists " + listed + ", and there are " + there);
    }

    private static void howTheyAreRun(String text) {
        Path script = Path.of(".ci/run");
        holds(text.contains("\n    .ci/run\n"), "says how the tests are run");
        holds(Files.isExecutable(script), ".ci/run can be run");
        holds(Files.exists(Path.of("src/main/java/BenchTimes.java")), "the class is where it says");
    }
}
