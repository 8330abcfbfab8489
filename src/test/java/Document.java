import java.io.IOException;
import java.io.UncheckedIOException;
import java.nio.file.Files;
import java.nio.file.Path;
import java.util.ArrayList;
import java.util.Comparator;
import java.util.LinkedHashMap;
import java.util.List;
import java.util.Map;

/**
 * The sections of the document that the tests of edges quote, word for word. In the end every word
 * of them must have been quoted by a test, so that no sentence is left without one.
 */
final class Document {
    private final Due due;
    private final Map<String, String> sections = new LinkedHashMap<>();
    private final Map<String, List<String>> quotes = new LinkedHashMap<>();

    Document(Due due, Path file) {
        this.due = due;
        String name = "";
        for (String line : lines(file)) {
            if (line.startsWith("## ")) {
                name = line.substring(3).trim();
            } else if (isAsked(name)) {
                sections.merge(shortName(name), withoutHead(name, line), (a, b) -> a + " " + b);
            }
        }
    }

    private static List<String> lines(Path file) {
        try {
            return Files.readAllLines(file);
        } catch (IOException e) {
            throw new UncheckedIOException(e);
        }
    }

    /** FaceTest looks at the public face, and what is not promised has no test. */
    private static boolean isAsked(String section) {
        return section.equals("What it is") || section.equals("Terms") || section.startsWith("Promise ");
    }

    private static String shortName(String section) {
        int end = section.indexOf(':');
        return end < 0 ? section : section.substring(0, end);
    }

    /** A promise begins with the head of its method, which FaceTest looks at. */
    private static String withoutHead(String section, String line) {
        int end = line.indexOf("`: ");
        return section.startsWith("Promise ") && line.startsWith("`") && end > 0 ? line.substring(end + 2) : line;
    }

    void quote(String section, String words) {
        String text = sections.getOrDefault(section, "");
        due.truth(section + " says: " + words, text.contains(words));
        quotes.computeIfAbsent(section, none -> new ArrayList<>()).add(words);
    }

    /** Whether no word of the sections is left when all quotes are taken out, longer ones first. */
    void end() {
        due.number("sections of the document", sections.size(), 22);
        for (Map.Entry<String, String> section : sections.entrySet()) {
            String rest = section.getValue();
            List<String> quoted = quotes.getOrDefault(section.getKey(), new ArrayList<>());
            quoted.sort(Comparator.comparingInt(String::length).reversed());
            for (String words : quoted) {
                rest = rest.replace(words, " ");
            }
            due.text(section.getKey() + ", words without a test", rest.replaceAll("[^A-Za-z0-9]+", " ").trim(), "");
        }
    }
}
