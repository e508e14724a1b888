import java.io.IOException;
import java.nio.charset.StandardCharsets;
import java.nio.file.Files;
import java.nio.file.Path;
import java.util.ArrayList;
import java.util.LinkedHashMap;
import java.util.List;
import java.util.Map;
import java.util.regex.Matcher;
import java.util.regex.Pattern;

/** The public face as the document tells it: the code of "The public face", and what other parts say of it again. */
final class Face {
    private static final Pattern VALUE = Pattern.compile("(\\w+) = (-?\\d+)L?");
    private static final Pattern PROMISE = Pattern.compile("^`((?:\\w+ )?\\w+\\([^`]*\\))`: ");
    private static final Pattern AHEAD = Pattern.compile("^Ahead of the calls (.*) the interface says: (.*)\\.$");

    /** The lines of code, without their last sign. */
    final List<String> constants = new ArrayList<>();
    final List<String> constructors = new ArrayList<>();
    final List<String> methods = new ArrayList<>();
    /** The constants of "The public face" and those that "Terms" tells again, each with its value. */
    final Map<String, Long> values = new LinkedHashMap<>();
    final Map<String, Long> valuesOfTerms = new LinkedHashMap<>();
    /** The heads of the promises, as "int one(int one, int temper)". */
    final List<String> promised = new ArrayList<>();
    /** The words ahead of some calls, and those calls. */
    final Map<String, List<String>> sections = new LinkedHashMap<>();

    Face(Path file) throws IOException {
        String part = "";
        for (String line : Files.readAllLines(file, StandardCharsets.UTF_8)) {
            if (line.startsWith("## ")) {
                part = line.substring(3);
            } else if (part.equals("The public face") && line.startsWith("    public ")) {
                readCode(line.strip());
            } else if (part.equals("Terms")) {
                readTerms(line);
            } else if (part.startsWith("Promise ")) {
                Matcher head = PROMISE.matcher(line);
                if (head.find()) {
                    promised.add(head.group(1));
                }
            }
        }
    }

    private void readCode(String line) {
        String bare = line.substring(0, line.length() - 1);
        if (bare.contains(" static ")) {
            constants.add(bare);
            readValues(bare, values);
        } else if (bare.matches("public \\w+\\(.*")) {
            constructors.add(bare);
        } else {
            methods.add(bare);
        }
    }

    private void readTerms(String line) {
        Matcher ahead = AHEAD.matcher(line);
        if (ahead.find()) {
            sections.put(ahead.group(2), List.of(ahead.group(1).replace("`", "").split(", ")));
        }
        if (line.startsWith("The constants: ") || line.startsWith("`GONE")) {
            readValues(line, valuesOfTerms);
        }
    }

    private static void readValues(String line, Map<String, Long> into) {
        Matcher value = VALUE.matcher(line);
        while (value.find()) {
            into.put(value.group(1), Long.parseLong(value.group(2)));
        }
    }

    /** "public int one(int one, boolean heard)" as "int one(int,boolean)". */
    static String withoutNames(String method) {
        String bare = method.replaceFirst("^public ", "");
        int open = bare.indexOf('(');
        StringBuilder kinds = new StringBuilder();
        for (String argument : bare.substring(open + 1, bare.indexOf(')')).split(", ")) {
            kinds.append(kinds.length() == 0 ? "" : ",").append(argument.split(" ")[0]);
        }
        return bare.substring(0, open) + "(" + kinds + ")";
    }
}
