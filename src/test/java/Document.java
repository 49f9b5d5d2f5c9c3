import java.io.IOException;
import java.nio.file.Files;
import java.nio.file.Path;
import java.util.ArrayList;
import java.util.LinkedHashMap;
import java.util.List;
import java.util.Map;
import java.util.regex.Matcher;
import java.util.regex.Pattern;

/** ../shared/DOC.md by its parts: "What it is", "Terms 1" to "Terms 4" and "Promise 1" to "Promise 42". */
final class Document {
    private static final Path FILE = Path.of("../shared/DOC.md");
    private static final Pattern HEAD = Pattern.compile("^(?:==== (\\d+)\\.|## Promise (\\d+):|## (What it is)$|## |# ).*");

    private Document() {
    }

    static Map<String, String> parts() {
        Map<String, StringBuilder> lines = new LinkedHashMap<>();
        String part = "";
        for (String line : readLines()) {
            Matcher head = HEAD.matcher(line);
            if (head.matches()) {
                part = name(head);
            }
            lines.computeIfAbsent(part, p -> new StringBuilder()).append(line).append(' ');
        }
        Map<String, String> parts = new LinkedHashMap<>();
        lines.forEach((name, text) -> parts.put(name, plain(text.toString())));
        parts.remove("");
        return parts;
    }

    /** The lines of the public face, without the blanks around them and the last brace. */
    static List<String> face() {
        List<String> lines = new ArrayList<>();
        boolean inside = false;
        for (String line : readLines()) {
            if (line.startsWith("```")) {
                if (inside) {
                    return lines;
                }
                inside = line.equals("```java");
            } else if (inside && !line.isBlank() && !line.equals("}")) {
                lines.add(line.trim());
            }
        }
        return lines;
    }

    private static String name(Matcher head) {
        if (head.group(1) != null) {
            return "Terms " + head.group(1);
        }
        if (head.group(2) != null) {
            return "Promise " + head.group(2);
        }
        return head.group(3) != null ? head.group(3) : "";
    }

    private static Iterable<String> readLines() {
        try {
            return Files.readAllLines(FILE);
        } catch (IOException e) {
            throw new IllegalStateException("no " + FILE, e);
        }
    }

    /** Without the marks of code, and with one blank wherever there are blanks or line ends. */
    private static String plain(String text) {
        return text.replace("`", "").replaceAll("\\s+", " ").trim();
    }
}
