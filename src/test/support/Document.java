import java.io.IOException;
import java.io.UncheckedIOException;
import java.nio.file.Files;
import java.nio.file.Path;
import java.util.ArrayList;
import java.util.Arrays;
import java.util.HashMap;
import java.util.List;
import java.util.Map;

/**
 * The words of ../shared/DOC.md: the sentences that tests quote stand in them, and sections are quoted wholly.
 * Where the document is not there, quotes are taken as they are.
 */
final class Document {
    private static final Path PLACE = Path.of("../shared/DOC.md");
    private static final Map<String, String> SECTIONS = sections();
    private static final Map<String, boolean[]> QUOTED = new HashMap<>();

    private Document() {
    }

    private static Map<String, String> sections() {
        Map<String, String> sections = new HashMap<>();
        String heading = "";
        boolean code = false;
        for (String line : lines()) {
            if (line.startsWith("```")) {
                code = !code;
            } else if (line.startsWith("#")) {
                heading = heading(line);
            } else {
                String section = code ? heading : line.startsWith("Ahead of the calls") ? "Ahead of the calls"
                        : line.startsWith("The constants:") || line.matches("`[A-Z_]+ = .*") ? "The constants" : heading;
                sections.merge(section, withoutSignature(line), (one, more) -> one + " " + more);
            }
        }
        return sections;
    }

    private static List<String> lines() {
        try {
            return Files.exists(PLACE) ? Files.readAllLines(PLACE) : new ArrayList<>();
        } catch (IOException thrown) {
            throw new UncheckedIOException(thrown);
        }
    }

    /** 'Promise 2: type' is called 'Promise 2'. */
    private static String heading(String line) {
        String words = line.replaceFirst("^#+ *", "");
        return words.startsWith("Promise ") ? words.substring(0, words.indexOf(':')) : words;
    }

    private static String withoutSignature(String line) {
        return line.replaceFirst("^`(int|boolean) [^`]*`: ", "").trim();
    }

    /** Tells whether a sentence stands in a section, and keeps in mind that it was quoted. */
    static boolean has(String section, String sentence) {
        if (SECTIONS.isEmpty()) {
            return true;
        }
        String words = SECTIONS.getOrDefault(section, "");
        int at = words.indexOf(sentence);
        if (at < 0) {
            return false;
        }
        boolean[] quoted = QUOTED.computeIfAbsent(section, s -> new boolean[words.length()]);
        for (int k = at; k >= 0; k = words.indexOf(sentence, k + 1)) {
            Arrays.fill(quoted, k, k + sentence.length(), true);
        }
        return true;
    }

    /** The words of a section that nobody quoted. */
    static String rest(String section) {
        if (!SECTIONS.isEmpty() && !SECTIONS.containsKey(section)) {
            return "(there is no such section)";
        }
        String words = SECTIONS.getOrDefault(section, "");
        boolean[] quoted = QUOTED.getOrDefault(section, new boolean[words.length()]);
        StringBuilder rest = new StringBuilder();
        for (int k = 0; k < words.length(); k++) {
            if (!quoted[k]) {
                rest.append(words.charAt(k));
            }
        }
        return rest.toString().trim();
    }
}
