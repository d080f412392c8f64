import java.io.IOException;
import java.io.UncheckedIOException;
import java.nio.file.Files;
import java.nio.file.Path;
import java.util.Map;
import java.util.Set;
import java.util.TreeMap;
import java.util.TreeSet;

/**
 * The words of ../shared/DOC.md by section ("Term 2", "STATUS", "Promise 17"), so that each test
 * can be held against the sentence that it quotes, and no sentence is left without a test.
 */
final class Document {
    private static final Path FILE = Path.of("..", "shared", "DOC.md");

    private final Map<String, String> open = new TreeMap<>();

    Document() {
        String section = "";
        for (String line : lines()) {
            section = sectionOf(line, section);
            open.merge(section, wordsOf(line), (a, b) -> (a + " " + b).trim());
        }
    }

    private static Iterable<String> lines() {
        try {
            return Files.readAllLines(FILE);
        } catch (IOException e) {
            throw new UncheckedIOException(e);
        }
    }

    private static String sectionOf(String line, String current) {
        if (line.startsWith("## ")) {
            return line.substring(3).replaceAll(":.*", "");
        }
        if (line.matches("[1-4]\\. .*")) {
            return "Term " + line.charAt(0);
        }
        if (line.startsWith("STATUS of calls")) {
            return "STATUS";
        }
        return line.startsWith("The constants:") ? "The constants" : current;
    }

    /** Leaves out what is no sentence: headings, numbers of terms, fences, a promise's signature. */
    private static String wordsOf(String line) {
        if (line.startsWith("#") || line.startsWith("```")) {
            return "";
        }
        return line.replaceAll("^[1-4]\\. ", "").replaceAll("^`[^`]*\\)[^`]*`: ", "")
            .replaceAll("\\s+", " ").trim();
    }

    /** The sections that have words of their own. */
    Set<String> sections() {
        Set<String> all = new TreeSet<>(open.keySet());
        all.removeIf(section -> open.get(section).isEmpty());
        return all;
    }

    /** Whether the section says these words, in a place that was not quoted before. */
    boolean quote(String section, String words) {
        String text = open.getOrDefault(section, "");
        int at = text.indexOf(words);
        if (at < 0) {
            return false;
        }
        open.put(section, text.substring(0, at) + "|" + text.substring(at + words.length()));
        return true;
    }

    /** What was not quoted of a section; empty if there is not a word left. */
    String unquoted(String section) {
        String rest = open.getOrDefault(section, "there is no such section");
        return rest.matches("[|\\s]*") ? "" : rest;
    }
}
