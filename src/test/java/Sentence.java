import java.io.IOException;
import java.io.UncheckedIOException;
import java.nio.file.Files;
import java.nio.file.Path;
import java.util.ArrayList;
import java.util.List;

/** Ties each test of an edge to the document's own words, and finds words of the document that no test is tied to. */
final class Sentence {
    private static final String TEXT = promisedText();
    private static final boolean[] TESTED = new boolean[TEXT.length()];

    private Sentence() {
    }

    /** What follows tests these words, which stand once in the document's terms and promises. */
    static void says(String words) {
        Check.about(words);
        int at = TEXT.indexOf(words);
        Check.holds("the document has these words", at >= 0);
        Check.holds("the document has these words but once", TEXT.indexOf(words, at + 1) < 0);
        for (int k = Math.max(at, 0); at >= 0 && k < at + words.length(); k++) {
            TESTED[k] = true;
        }
    }

    /** The stretches of the document's terms and promises that no test has named. */
    static List<String> untested() {
        List<String> all = new ArrayList<>();
        int from = 0;
        for (int k = 0; k <= TEXT.length(); k++) {
            if (k == TEXT.length() || TESTED[k]) {
                String stretch = TEXT.substring(from, k).strip();
                if (!stretch.isEmpty()) {
                    all.add(stretch);
                }
                from = k + 1;
            }
        }
        return all;
    }

    /** Terms and promises as one line, without headings, fences, and the calls' signatures. */
    private static String promisedText() {
        StringBuilder text = new StringBuilder();
        for (String line : between(document(), "## Terms", "## Not promised").split("\n")) {
            boolean frame = line.startsWith("#") || line.startsWith("```") || line.startsWith("Ahead of the calls");
            String words = frame ? "" : line.replaceFirst("^======== \\d ", "").replaceFirst("^`[^`]*`: ", "");
            text.append(words.strip()).append(words.isBlank() ? "" : " ");
        }
        return text.toString();
    }

    private static String between(String text, String first, String behind) {
        return text.substring(text.indexOf(first), text.indexOf(behind));
    }

    private static String document() {
        try {
            return Files.readString(Path.of("../shared/DOC.md"));
        } catch (IOException missing) {
            throw new UncheckedIOException(missing);
        }
    }
}
