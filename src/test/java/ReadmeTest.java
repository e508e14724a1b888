import java.io.File;
import java.io.IOException;
import java.lang.reflect.Field;
import java.lang.reflect.Method;
import java.lang.reflect.Modifier;
import java.net.URL;
import java.net.URLClassLoader;
import java.nio.charset.StandardCharsets;
import java.nio.file.Files;
import java.nio.file.Path;
import java.util.ArrayList;
import java.util.Comparator;
import java.util.List;
import java.util.Set;
import java.util.TreeSet;
import java.util.regex.Matcher;
import java.util.regex.Pattern;
import java.util.stream.Collectors;
import java.util.stream.Stream;
import javax.tools.ToolProvider;

/**
 * README.md holds: its Java lines, one after another, compile and run, and each call answers what
 * stands behind it ("town.leave(2);  // 2: C is gone"); every call and every refusal is shown; the
 * values of the refusals and the list of tests are right.
 */
public final class ReadmeTest {
    private static final String ANSWER = "-?\\d+|[A-Z]+(?: \\+ [A-Z]+)?";
    private static final Pattern ANSWERED = Pattern.compile("(town\\.(\\w+)\\(.*\\)); +// (" + ANSWER + ")(?:: .*)?");
    private static final Pattern NAME = Pattern.compile("[A-Z]+");
    private static final Pattern REFUSAL_ROW = Pattern.compile("\\| `([A-Z]+(?: \\+ [A-Z]+)?)` \\| (-\\d+) \\|.*");
    private static final Pattern TEST_ROW = Pattern.compile("\\| `(\\w+Test)` \\|.*");

    private final Due due = new Due();
    private final List<String> lines;
    private final List<String> code = new ArrayList<>();
    private final Set<String> calls = new TreeSet<>();
    private final Set<String> answers = new TreeSet<>();

    private ReadmeTest(List<String> lines) {
        this.lines = lines;
    }

    public static void main(String[] args) throws Exception {
        Path project = Path.of(System.getProperty("project", "."));
        ReadmeTest test = new ReadmeTest(Files.readAllLines(project.resolve("README.md"), StandardCharsets.UTF_8));
        test.readExamples();
        test.runExamples();
        test.allIsShown();
        test.refusals();
        test.tests(project);
        test.due.finish();
    }

    private void readExamples() {
        boolean inside = false;
        for (String line : lines) {
            if (line.startsWith("```")) {
                inside = line.equals("```java");
            } else if (inside) {
                code.add(translated(line.strip()));
            }
        }
    }

    /** A call with an answer becomes a row of what is asked, what it answers and what is due. */
    private String translated(String line) {
        Matcher call = ANSWERED.matcher(line);
        if (!call.matches()) {
            due.holds("README: an answer stands behind " + line, !line.startsWith("town.") || line.equals("town.say(sign);"));
            return line;
        }
        calls.add(call.group(2));
        answers.add(call.group(3));
        String want = NAME.matcher(call.group(3)).replaceAll("OathPermit.$0");
        String shown = call.group(1).replace("\\", "\\\\").replace("\"", "\\\"");
        return "rows.add(new Object[] {\"" + shown + "\", (long) " + call.group(1) + ", (long) (" + want + ")});";
    }

    private void runExamples() throws Exception {
        Path folder = Files.createTempDirectory("readme");
        try {
            Path file = folder.resolve("Shown.java");
            Files.writeString(file, "public final class Shown {\n"
                    + "public static void run(java.util.List<Object[]> rows) {\n"
                    + String.join("\n", code) + "\n}\n}\n");
            int exit = ToolProvider.getSystemJavaCompiler().run(null, null, null,
                    "-classpath", System.getProperty("java.class.path"), "-d", folder.toString(), file.toString());
            due.is("README: compiling its Java lines", exit, 0);
            if (exit == 0) {
                runCompiled(folder);
            }
        } finally {
            remove(folder);
        }
    }

    private void runCompiled(Path folder) throws Exception {
        List<Object[]> rows = new ArrayList<>();
        try (URLClassLoader loader = new URLClassLoader(new URL[] {folder.toUri().toURL()})) {
            loader.loadClass("Shown").getMethod("run", List.class).invoke(null, rows);
        }
        for (Object[] row : rows) {
            due.is("README: " + row[0], (Long) row[1], (Long) row[2]);
        }
    }

    private static void remove(Path folder) throws IOException {
        try (Stream<Path> found = Files.walk(folder)) {
            found.sorted(Comparator.reverseOrder()).map(Path::toFile).forEach(File::delete);
        }
    }

    private void allIsShown() {
        for (Method method : OathPermit.class.getDeclaredMethods()) {
            if (Modifier.isPublic(method.getModifiers())) {
                due.holds("README shows a call of " + method.getName() + " with its answer", calls.contains(method.getName()));
            }
        }
        for (String name : List.of("UNKNOWN", "OUTSIDE", "NO", "STATE", "FULL", "NONE", "GONE + OUTSIDE")) {
            due.holds("README shows a call that answers " + name, answers.contains(name));
        }
    }

    /** The table of refusals: each constant with its value, in the order in which calls look at them. */
    private void refusals() throws ReflectiveOperationException {
        List<String> names = new ArrayList<>();
        for (String line : lines) {
            Matcher row = REFUSAL_ROW.matcher(line);
            if (row.matches()) {
                names.add(row.group(1));
                long sum = 0;
                for (String name : row.group(1).split(" \\+ ")) {
                    Field field = OathPermit.class.getField(name);
                    sum += ((Number) field.get(null)).longValue();
                }
                due.is("README: the value of " + row.group(1), Long.parseLong(row.group(2)), sum);
            }
        }
        due.holds("README tells the refusals in their order: " + names,
                names.equals(List.of("UNKNOWN", "OUTSIDE", "NO", "STATE", "FULL", "GONE + OUTSIDE", "NONE")));
    }

    private void tests(Path project) throws IOException {
        Set<String> told = new TreeSet<>();
        for (String line : lines) {
            Matcher row = TEST_ROW.matcher(line);
            if (row.matches()) {
                told.add(row.group(1));
            }
        }
        try (Stream<Path> files = Files.list(project.resolve("src/test/java"))) {
            Set<String> there = files.map(file -> file.getFileName().toString()).filter(name -> name.endsWith("Test.java"))
                    .map(name -> name.replace(".java", "")).collect(Collectors.toCollection(TreeSet::new));
            due.holds("README tells of the tests that there are: " + told + ", " + there, told.equals(there));
        }
        int command = lines.indexOf(".ci/run");
        due.holds("README tells the one command, which can be run", command > 0 && lines.get(command - 1).equals("```sh")
                && lines.get(command + 1).equals("```") && Files.isExecutable(project.resolve(".ci/run")));
    }
}
