import java.io.IOException;
import java.nio.file.Files;
import java.nio.file.Path;
import java.util.HashMap;
import java.util.Map;
import java.util.Set;

/** Says which sentence of the document a test is for; sees that it stands there, and that none was left out. */
final class Sentences {
    private static final Path DOCUMENT = Path.of("../shared/DOC.md");
    // Headings inside the description and the numbers of its rules: they promise nothing.
    private static final Set<String> HEADINGS = Set.of("Logs.", "Trees.", "Mining.", "1.", "2.", "3.", "4.", "5.",
            "6.", "7.", "8.");

    private final Map<String, String> texts;
    private final Map<String, boolean[]> tested = new HashMap<>();

    Sentences() {
        texts = read();
        texts.forEach((section, text) -> tested.put(section, new boolean[text.length()]));
    }

    void test(String section, String sentence, Runnable checks) {
        mark(section, sentence);
        Check.about(section + ", \"" + sentence + "\"");
        checks.run();
        Check.about("");
    }

    /** Marks a sentence that names nothing that could be tested. */
    void pass(String section, String sentence) {
        mark(section, sentence);
    }

    private void mark(String section, String sentence) {
        String text = texts.getOrDefault(section, "");
        int at = text.indexOf(sentence);
        if (!texts.isEmpty()) {
            Check.due("\"" + sentence + "\" stands in " + section, at >= 0, true);
        }
        while (at >= 0) {
            for (int i = at; i < at + sentence.length(); i++) {
                tested.get(section)[i] = true;
            }
            at = text.indexOf(sentence, at + 1);
        }
    }

    /** All words of these sections were in a sentence that was tested. */
    void dueAll(String section) {
        String text = texts.getOrDefault(section, "");
        StringBuilder left = new StringBuilder();
        for (int i = 0; i < text.length(); i++) {
            left.append(tested.get(section)[i] ? ' ' : text.charAt(i));
        }
        for (String word : left.toString().trim().split("\\s+")) {
            boolean isFree = HEADINGS.contains(word) || !word.matches(".*[A-Za-z0-9].*");
            Check.due("\"" + word + "\" in " + section + " has a test", isFree, true);
        }
    }

    // Where the document is not at hand, the tests run without looking where their sentences stand.
    private static Map<String, String> read() {
        Map<String, String> result = new HashMap<>();
        if (!Files.isReadable(DOCUMENT)) {
            System.out.println("no " + DOCUMENT + ": the sentences are not looked up");
            return result;
        }
        String section = "";
        try {
            for (String line : Files.readAllLines(DOCUMENT)) {
                if (line.startsWith("#")) {
                    section = line.replaceAll("^#+ *", "").replaceAll("^(Promise \\d+):.*", "$1");
                } else if (!line.startsWith("----") && !line.startsWith("`")) {
                    result.merge(section, line.trim(), (a, b) -> (a + " " + b).trim());
                }
            }
        } catch (IOException e) {
            throw new IllegalStateException(e);
        }
        return result;
    }
}
