import java.io.File;
import java.lang.reflect.Field;
import java.lang.reflect.Method;
import java.lang.reflect.Modifier;
import java.net.URL;
import java.net.URLClassLoader;
import java.nio.file.Files;
import java.nio.file.Path;
import java.util.ArrayList;
import java.util.List;
import java.util.regex.Matcher;
import java.util.regex.Pattern;
import java.util.stream.Stream;
import javax.tools.JavaCompiler;
import javax.tools.ToolProvider;

/** README.md: its examples, compiled as they stand there, and that it names all calls, codes and tests. */
public final class ReadmeTest {
    private static final Checks CHECKS = new Checks("ReadmeTest");
    private static final Path README = Path.of("README.md");
    private static final Path TESTS = Path.of("src/test/java");
    private static final String EXAMPLES = "ReadmeExamples";
    private static final String NEW_OBJECT = "FoldedStrips strips = new FoldedStrips();";
    private static final Pattern BLOCK = Pattern.compile("(?s)```java\n(.*?)```");
    private static final Pattern CALL = Pattern.compile("(.+); +// (-?\\d+|[A-Z_]+)(: .+)?");

    private final StringBuilder members = new StringBuilder();
    private final StringBuilder body = new StringBuilder();
    private final List<String> calls = new ArrayList<>();
    private final List<Integer> answersDue = new ArrayList<>();

    public static void main(String[] args) throws Exception {
        String readme = Files.readString(README);
        examplesAnswerAsTheySay(readme);
        callsAreNamed(readme);
        codesAreNamed(readme);
        testsAreNamed(readme);
        CHECKS.holds("for how many calls an object is used", readme.contains("for at most 512 calls"));
        CHECKS.close();
    }

    // ---- examples

    private static void examplesAnswerAsTheySay(String readme) throws Exception {
        ReadmeTest examples = new ReadmeTest();
        Matcher block = BLOCK.matcher(readme);
        while (block.find()) {
            examples.take(block.group(1));
        }
        Path folder = Files.createTempDirectory("readme");
        try {
            examples.compare(examples.answers(folder));
        } finally {
            removeAll(folder);
        }
        for (Method method : FoldedStrips.class.getDeclaredMethods()) {
            if (Modifier.isPublic(method.getModifiers())) {
                String start = "strips." + method.getName() + "(";
                CHECKS.holds("an example of " + method.getName(),
                    examples.calls.stream().anyMatch(call -> call.startsWith(start)));
            }
        }
    }

    /** A block is an example, if it begins with a new object; otherwise it is methods that examples use. */
    private void take(String block) throws Exception {
        if (!block.startsWith(NEW_OBJECT)) {
            members.append(block);
            return;
        }
        body.append("{\n");
        for (String line : block.split("\n")) {
            takeLine(line);
        }
        body.append("}\n");
    }

    private void takeLine(String line) throws Exception {
        if (line.equals(NEW_OBJECT)) {
            body.append(line).append("\n");
            return;
        }
        Matcher call = CALL.matcher(line);
        if (!call.matches()) {
            CHECKS.holds("a line of an example without an answer: " + line, false);
            return;
        }
        calls.add(call.group(1));
        answersDue.add(numberOf(call.group(2)));
        body.append("answers.add(").append(call.group(1)).append(");\n");
    }

    private static int numberOf(String answer) throws Exception {
        boolean named = Character.isUpperCase(answer.charAt(0));
        return named ? FoldedStrips.class.getField(answer).getInt(null) : Integer.parseInt(answer);
    }

    /** What the calls of all examples answer, in their order; none if they can't be compiled. */
    private List<Integer> answers(Path folder) throws Exception {
        List<Integer> answers = new ArrayList<>();
        Path source = folder.resolve(EXAMPLES + ".java");
        Files.writeString(source, "public final class " + EXAMPLES + " {\n" + members
            + "public static void all(java.util.List<Integer> answers) {\n" + body + "}\n}\n");
        JavaCompiler compiler = ToolProvider.getSystemJavaCompiler();
        CHECKS.holds("there is a compiler", compiler != null);
        if (compiler == null || compiler.run(null, null, null, "-d", folder.toString(),
            "-cp", System.getProperty("java.class.path"), source.toString()) != 0) {
            return answers;
        }
        try (URLClassLoader loader = new URLClassLoader(new URL[] {folder.toUri().toURL()})) {
            loader.loadClass(EXAMPLES).getMethod("all", List.class).invoke(null, answers);
        }
        return answers;
    }

    private void compare(List<Integer> answers) {
        CHECKS.holds("the page has examples", calls.size() > 0);
        CHECKS.due("how many calls are answered", calls.size(), answers.size());
        for (int at = 0; at < Math.min(calls.size(), answers.size()); at++) {
            CHECKS.due("an example, " + calls.get(at), answersDue.get(at), answers.get(at));
        }
    }

    private static void removeAll(Path folder) {
        File[] files = folder.toFile().listFiles();
        for (File file : files == null ? new File[0] : files) {
            file.delete();
        }
        folder.toFile().delete();
    }

    // ---- what the page names

    /** Each call has a row of a table, with as many arguments as it takes. */
    private static void callsAreNamed(String readme) {
        for (Method method : FoldedStrips.class.getDeclaredMethods()) {
            if (Modifier.isPublic(method.getModifiers())) {
                Matcher row = Pattern.compile("\n\\| `" + method.getName() + "\\(([^)]*)\\)` \\|").matcher(readme);
                boolean found = row.find();
                CHECKS.holds("a row for " + method.getName(), found);
                int arguments = !found || row.group(1).isEmpty() ? 0 : row.group(1).split(", ").length;
                CHECKS.due("arguments of " + method.getName(), method.getParameterCount(), arguments);
            }
        }
    }

    private static void codesAreNamed(String readme) throws Exception {
        for (Field field : FoldedStrips.class.getDeclaredFields()) {
            if (Modifier.isPublic(field.getModifiers())) {
                String row = "\n| `" + field.getName() + "` | " + field.getInt(null) + " |";
                CHECKS.holds("a row for " + field.getName(), readme.contains(row));
            }
        }
    }

    private static void testsAreNamed(String readme) throws Exception {
        try (Stream<Path> files = Files.list(TESTS)) {
            for (Path file : files.toList()) {
                String name = file.getFileName().toString();
                if (name.endsWith(".java")) {
                    CHECKS.holds("a row for " + name, readme.contains("`" + name.replace(".java", "") + "`"));
                }
            }
        }
        CHECKS.holds("how the tests are run", readme.contains(".ci/run"));
    }
}
