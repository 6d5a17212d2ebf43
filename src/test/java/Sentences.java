import java.io.IOException;
import java.nio.file.Files;
import java.nio.file.Path;
import java.util.Arrays;
import java.util.LinkedHashMap;
import java.util.Map;

/**
 * The document's sentences, each with a test of its own. A sentence is quoted as it stands there; close() finds
 * a quotation that the document does not have, and words of its terms and promises that no test quotes.
 */
final class Sentences {
    /** Its first paragraph names what the terms and promises tell: no test need quote it. */
    static final String WHAT_IT_IS = "What it is";

    private static final Path DOCUMENT = Path.of("../shared/DOC.md");

    private static final Map<String, String> sections = readSections();
    private static final Map<String, boolean[]> quoted = new LinkedHashMap<>();
    private static String section = "";
    private static int tests = 0;

    private Sentences() {
    }

    /** The heading, up to its colon, under which the next sentences stand. */
    static void under(String heading) {
        section = heading;
        Due.speakOf("");
        Due.holds("the document has the heading " + heading, sections.containsKey(heading));
        quoted.computeIfAbsent(heading, key -> new boolean[sections.getOrDefault(key, "").length()]);
    }

    static void says(String sentence, Runnable test) {
        tests++;
        Due.speakOf(section + ", \"" + sentence + "\"");
        Due.holds("the document says so", quote(sentence));
        int before = Due.asked();
        test.run();
        Due.holds("the test asks something", Due.asked() > before);
        Due.speakOf("");
    }

    /** Each place where the sentence stands is marked: "BAD" may end two of a promise's sentences. */
    private static boolean quote(String sentence) {
        String text = sections.getOrDefault(section, "");
        int place = text.indexOf(sentence);
        boolean found = place >= 0;
        while (place >= 0) {
            Arrays.fill(quoted.get(section), place, place + sentence.length(), true);
            place = text.indexOf(sentence, place + 1);
        }
        return found;
    }

    static void close() {
        for (Map.Entry<String, String> entry : sections.entrySet()) {
            String left = unquoted(entry.getValue(), quoted.get(entry.getKey()));
            boolean told = left.isEmpty() || entry.getKey().equals(WHAT_IT_IS);
            Due.holds(entry.getKey() + ": no test quotes \"" + left + "\"", told);
        }
        System.out.println(tests + " sentences have a test of their own");
    }

    private static String unquoted(String text, boolean[] marks) {
        StringBuilder left = new StringBuilder();
        for (int i = 0; i < text.length(); i++) {
            boolean marked = marks != null && marks[i];
            left.append(marked ? ' ' : text.charAt(i));
        }
        String words = left.toString().replaceAll(" +", " ").trim();
        return words.matches("[^A-Za-z0-9]*") ? "" : words;
    }

    private static Map<String, String> readSections() {
        Map<String, String> found = new LinkedHashMap<>();
        for (String part : readDocument().split("(?m)^## ")) {
            int end = part.indexOf('\n');
            String heading = end < 0 ? part : part.substring(0, end);
            String name = heading.replaceAll(":.*", "");
            if (name.equals(WHAT_IT_IS) || name.equals("Terms") || name.startsWith("Promise ")) {
                found.put(name, plain(part.substring(end)));
            }
        }
        return found;
    }

    private static String readDocument() {
        try {
            return Files.readString(DOCUMENT);
        } catch (IOException missing) {
            throw new IllegalStateException("no document at " + DOCUMENT, missing);
        }
    }

    /** Without marks of form, the calls' declarations, and the lines that tell only where the interface has a heading. */
    private static String plain(String body) {
        return body.replaceAll("(?m)^Ahead of the calls .*$", "")
                .replaceAll("(?m)^`int [a-z]+\\([^`]*\\)`: ", "")
                .replaceAll("(?m)^`SlidingRanks\\(\\)`: ", "")
                .replaceAll("(?m)^======== \\d ", "")
                .replaceAll("(?m)^```[a-z]*$", "")
                .replace("`", "")
                .replaceAll("\\s+", " ")
                .trim();
    }
}
