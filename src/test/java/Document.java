import java.io.IOException;
import java.nio.charset.StandardCharsets;
import java.nio.file.Files;
import java.nio.file.Path;
import java.util.ArrayList;
import java.util.Arrays;
import java.util.LinkedHashMap;
import java.util.List;
import java.util.Locale;
import java.util.Map;

/** The document's words by part ("what it is", "terms", "promise 1" ..), and which of them a test has quoted. */
final class Document {
    private final Map<String, StringBuilder> parts = new LinkedHashMap<>();
    private final Map<String, boolean[]> quoted = new LinkedHashMap<>();

    Document(Path file) throws IOException {
        String part = "";
        for (String line : Files.readAllLines(file, StandardCharsets.UTF_8)) {
            if (line.startsWith("## ")) {
                part = nameOf(line);
            } else if (!part.isEmpty() && !line.startsWith("```") && !line.startsWith("Ahead of the calls")) {
                parts.computeIfAbsent(part, name -> new StringBuilder(" ")).append(bare(line)).append(' ');
            }
        }
        for (String name : parts.keySet()) {
            quoted.put(name, new boolean[text(name).length()]);
        }
    }

    private static String nameOf(String heading) {
        if (heading.equals("## What it is") || heading.equals("## Terms")) {
            return heading.substring(3).toLowerCase(Locale.ROOT);
        }
        return heading.startsWith("## Promise ") ? "promise " + heading.substring(11, heading.indexOf(':')) : "";
    }

    /** Without the marks of a section's beginning, and without a call's face. */
    private static String bare(String line) {
        return line.replaceFirst("^=+ [1-4] ", "").replaceFirst("^`[^`]*`: ", "");
    }

    private String text(String part) {
        return parts.get(part).toString().replaceAll("\\s+", " ");
    }

    /** Whether these words stand in that part; marks them as quoted. */
    boolean quote(String part, String words) {
        if (!parts.containsKey(part)) {
            return false;
        }
        String text = text(part);
        int from = text.indexOf(words);
        for (int at = from; at >= 0; at = text.indexOf(words, at + 1)) {
            Arrays.fill(quoted.get(part), at, at + words.length(), true);
        }
        return from >= 0;
    }

    /** The stretches of words that nothing has quoted. */
    List<String> unquoted() {
        List<String> list = new ArrayList<>();
        for (String name : parts.keySet()) {
            String text = text(name);
            StringBuilder gap = new StringBuilder();
            for (int i = 0; i <= text.length(); i++) {
                if (i < text.length() && !quoted.get(name)[i]) {
                    gap.append(text.charAt(i));
                } else {
                    if (gap.chars().anyMatch(Character::isLetterOrDigit)) {
                        list.add(name + ": " + gap);
                    }
                    gap.setLength(0);
                }
            }
        }
        return list;
    }
}
