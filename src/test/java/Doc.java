import java.io.IOException;
import java.nio.file.Files;
import java.nio.file.Path;
import java.util.LinkedHashMap;
import java.util.Map;

/**
 * The sentences of the document. A test says which sentence it holds to, word for word; at the end
 * each word of the terms and of the promises must have been said by some test.
 */
final class Doc {
    private static final Path FILE = Path.of("../shared/DOC.md");
    private static final Map<String, String> WORDS = new LinkedHashMap<>();
    private static final Map<String, boolean[]> SAID = new LinkedHashMap<>();

    private Doc() {
    }

    static void read() throws IOException {
        for (String section : Files.readString(FILE).split("\n## ")) {
            String head = section.substring(0, section.indexOf('\n'));
            String body = section.substring(section.indexOf('\n'))
                .replaceAll("\n```\\w*", " ").replaceAll("\nAhead of the calls [^\n]*", " ");
            String name = head.replaceAll("^Promise (\\d+):.*", "$1");
            if (!name.equals(head)) {
                body = body.replaceFirst("`[^`]*`: ", "");
            }
            body = plain(body);
            WORDS.put(name, body);
            SAID.put(name, new boolean[body.length()]);
        }
    }

    private static String plain(String text) {
        return text.replaceAll("==== \\d ", "").replaceAll("\\s+", " ").trim();
    }

    /** The answers from here on hold to these words of a section: a promise's number, or "Terms". */
    static void says(String section, String words) {
        Due.holdsTo("");
        String body = WORDS.getOrDefault(section, "");
        int at = body.indexOf(words);
        Due.isTrue(section + " says: " + words, at >= 0);
        for (int k = 0; at >= 0 && k < words.length(); k++) {
            SAID.get(section)[at + k] = true;
        }
        Due.holdsTo(section + " \"" + words + "\": ");
    }

    /** Each letter and figure of the terms and of the promises has been said. */
    static void allSaid() {
        Due.holdsTo("");
        int promises = 0;
        for (String section : WORDS.keySet()) {
            boolean promise = section.matches("\\d+");
            if (promise || section.equals("Terms")) {
                Due.due("words of " + section + " without a test: " + unsaid(section),
                    unsaid(section).length(), 0);
            }
            promises += promise ? 1 : 0;
        }
        Due.due("promises", promises, 36);
    }

    private static String unsaid(String section) {
        StringBuilder rest = new StringBuilder();
        String body = WORDS.get(section);
        for (int k = 0; k < body.length(); k++) {
            if (!SAID.get(section)[k] && Character.isLetterOrDigit(body.charAt(k))) {
                rest.append(body.charAt(k));
            }
        }
        return rest.toString();
    }
}
