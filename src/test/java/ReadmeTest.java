import java.io.IOException;
import java.lang.reflect.Method;
import java.lang.reflect.Modifier;
import java.net.URL;
import java.net.URLClassLoader;
import java.nio.file.Files;
import java.nio.file.Path;
import java.util.ArrayList;
import java.util.List;
import java.util.regex.Matcher;
import java.util.regex.Pattern;
import java.util.stream.Stream;
import javax.tools.ToolProvider;

/** The example of README.md compiles, answers what its comments say, and has each call of the face. */
final class ReadmeTest {
    private static final Path README = Path.of("README.md");
    private static final String NAME = "ReadmeExample";
    private static final Pattern BLOCK = Pattern.compile("```java\\n(.*?)```", Pattern.DOTALL);
    private static final Pattern ANSWER = Pattern.compile("(int \\w+ = )?(rows\\..*;) +// (-?\\d+).*");

    private final Due due = new Due();
    private final List<String> calls = new ArrayList<>();
    private final List<Integer> wanted = new ArrayList<>();

    public static void main(String[] args) throws IOException, ReflectiveOperationException {
        ReadmeTest test = new ReadmeTest();
        String example = test.readExample();
        test.compareAnswers(test.answersOf(test.programOf(example)));
        test.findEachCall(example);
        test.due.end();
    }

    private String readExample() throws IOException {
        Matcher block = BLOCK.matcher(Files.readString(README));
        due.same("README.md has an example", block.find() ? 1 : 0, 1);
        return block.group(1);
    }

    private String programOf(String example) {
        StringBuilder lines = new StringBuilder();
        example.lines().forEach(line -> lines.append(keepAnswer(line)).append('\n'));
        return "public final class " + NAME + " {\n"
            + "public static int[] answers() {\n"
            + "int[] kept = new int[" + wanted.size() + "];\n"
            + lines
            + "return kept;\n}\n}\n";
    }

    /** A call that a comment tells the answer of puts it into the row; any other line stays as it is. */
    private String keepAnswer(String line) {
        Matcher m = ANSWER.matcher(line);
        if (!m.matches()) {
            return line;
        }
        String declared = m.group(1) == null ? "" : m.group(1);
        calls.add(m.group(2));
        wanted.add(Integer.valueOf(m.group(3)));
        return declared + "kept[" + (wanted.size() - 1) + "] = " + m.group(2);
    }

    private int[] answersOf(String program) throws IOException, ReflectiveOperationException {
        Path folder = Files.createTempDirectory("readme");
        try {
            Path file = Files.writeString(folder.resolve(NAME + ".java"), program);
            int failed = ToolProvider.getSystemJavaCompiler().run(null, System.out, System.out,
                "-cp", System.getProperty("java.class.path"), "-d", folder.toString(), file.toString());
            due.same("compiling the example", failed, 0);
            return failed == 0 ? run(folder) : new int[wanted.size()];
        } finally {
            delete(folder);
        }
    }

    private static int[] run(Path folder) throws IOException, ReflectiveOperationException {
        try (URLClassLoader loader = new URLClassLoader(new URL[] {folder.toUri().toURL()})) {
            return (int[]) loader.loadClass(NAME).getMethod("answers").invoke(null);
        }
    }

    private static void delete(Path folder) throws IOException {
        try (Stream<Path> files = Files.list(folder)) {
            for (Path file : files.toList()) {
                Files.delete(file);
            }
        }
        Files.delete(folder);
    }

    private void compareAnswers(int[] got) {
        due.same("the example tells answers", wanted.isEmpty() ? 0 : 1, 1);
        for (int i = 0; i < got.length; i++) {
            due.same(calls.get(i), got[i], wanted.get(i));
        }
    }

    private void findEachCall(String example) {
        for (Method m : StationRows.class.getDeclaredMethods()) {
            if (Modifier.isPublic(m.getModifiers()) && !example.contains("rows." + m.getName() + "(")) {
                due.tell("the example has no call of " + m.getName());
            }
        }
    }
}
