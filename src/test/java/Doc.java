import java.io.IOException;
import java.nio.file.Files;
import java.nio.file.Path;
import java.util.Map;
import java.util.TreeMap;

/**
 * The document's terms (0) and promises (1 to 26), and which of their words a test has quoted. It only tells: a wording
 * that changed, or a document that is not there, makes no test fail.
 */
final class Doc {
    static final int TERMS = 0;
    static final int PROMISES = 26;

    private static final Path FILE = Path.of("../shared/DOC.md");
    private static final char QUOTED = '\u0000';

    private final Map<Integer, String> parts = new TreeMap<>();
    private final Map<Integer, StringBuilder> left = new TreeMap<>();

    Doc() {
        if (!Files.isReadable(FILE)) {
            return;
        }
        try {
            String text = plain(Files.readString(FILE));
            parts.put(TERMS, part(text, "An object is used", "## The public face")
                    + part(text, "Answers: BAD", "Ahead of the calls"));
            for (int n = 1; n <= PROMISES; n++) {
                parts.put(n, part(text, "## Promise " + n + ":", n < PROMISES ? "## Promise " + (n + 1) + ":" : "## Not"));
            }
            parts.forEach((n, part) -> left.put(n, new StringBuilder(part)));
        } catch (IOException e) {
            System.out.println("the document can not be read: " + e.getMessage());
        }
    }

    private static String plain(String words) {
        return words.replaceAll("```(text)?|=====+ [12]|\\s+", " ").replaceAll(" +", " ");
    }

    private static String part(String text, String from, String to) {
        int first = text.indexOf(from);
        int end = text.indexOf(to);
        return first < 0 || end < first ? "" : text.substring(first, end);
    }

    void quote(int promise, String words) {
        if (!parts.containsKey(promise)) {
            return;
        }
        int at = parts.get(promise).indexOf(plain(words));
        if (at < 0) {
            System.out.println("promise " + promise + " has no such words: " + words);
            return;
        }
        for (int i = at; i < at + plain(words).length(); i++) {
            left.get(promise).setCharAt(i, QUOTED);
        }
    }

    void tellLeft() {
        for (Map.Entry<Integer, StringBuilder> part : left.entrySet()) {
            for (String words : part.getValue().toString().split(QUOTED + "+")) {
                String rest = words.strip();
                if (rest.length() > 1 && !rest.matches("## Promise [^`]*`[^`]*`:")) {
                    System.out.println("promise " + part.getKey() + ", not quoted: " + rest);
                }
            }
        }
    }
}
