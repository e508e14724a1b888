import java.io.IOException;
import java.nio.charset.StandardCharsets;
import java.nio.file.Files;
import java.nio.file.Path;
import java.util.ArrayList;
import java.util.List;
import java.util.stream.Collectors;
import java.util.stream.Stream;

/**
 * The tests of src/test/edges: to each sentence of the document's What it is, Terms and Promises the
 * edges that it names. A test begins with "== part: what it asks", then come the words of the document ("), as
 * they stand in that part, then a script. "== lines NAME" keeps lines for "begin NAME". Words of the
 * document that no test quotes are a fault, so that a sentence that is added is missed.
 */
public final class EdgesTest {
    private final Due due;
    private final Document document;
    private String title = "";
    private final StringBuilder script = new StringBuilder();

    private EdgesTest(Due due, Document document) {
        this.due = due;
        this.document = document;
    }

    public static void main(String[] args) throws IOException {
        Path project = Path.of(System.getProperty("project", "."));
        Due due = new Due();
        Document document = new Document(project.resolve("../shared/DOC.md"));
        List<Path> files = new ArrayList<>();
        try (Stream<Path> found = Files.list(project.resolve("src/test/edges"))) {
            files.addAll(found.sorted().collect(Collectors.toList()));
        }
        for (Path file : files) {
            new EdgesTest(due, document).read(Files.readAllLines(file, StandardCharsets.UTF_8));
        }
        for (String gap : document.unquoted()) {
            due.holds("a test quotes " + gap, false);
        }
        due.finish();
    }

    private void read(List<String> lines) {
        for (String line : lines) {
            if (line.startsWith("== ")) {
                runScript();
                title = line.substring(3);
            } else if (line.startsWith("\" ")) {
                String part = title.substring(0, Math.max(0, title.indexOf(':')));
                due.holds(title + ": the document says " + line, document.quote(part, line.substring(2).strip()));
            } else {
                script.append(line).append('\n');
            }
        }
        runScript();
    }

    private void runScript() {
        if (title.startsWith("lines ")) {
            Script.keepLines(title.substring(6), script.toString());
        } else if (!title.isEmpty()) {
            new Script(due).run(title, script.toString());
        }
        title = "";
        script.setLength(0);
    }
}
