import java.util.ArrayList;
import java.util.List;
import java.util.regex.Matcher;
import java.util.regex.Pattern;

/** The document, to hold the sentences against that tests say they stand for. */
final class Document {
    // What tells nothing of its own: headings, fences, signatures, the Terms' numbers, and where the
    // face is parted into groups of calls.
    private static final Pattern FRAME = Pattern.compile(
            "(?m)^## .*$|^```.*$|^`[^`]*\\)`: |^[IV]+\\. |^Ahead of the calls .* the interface says: ---- [a-z ]+\\.?$");
    private final String text;
    private final boolean[] told;

    Document(String text) {
        this.text = text;
        told = new boolean[text.length()];
        Matcher frame = FRAME.matcher(text);
        while (frame.find()) {
            tell(frame.start(), frame.end());
        }
    }

    private void tell(int from, int to) {
        for (int i = from; i < to; i++) {
            told[i] = true;
        }
    }

    /** Whether the section has these words, which are told then. */
    boolean has(String section, String words) {
        Matcher heading = Pattern.compile("(?m)^## " + section + "(:.*)?$").matcher(text);
        if (!heading.find()) {
            return false;
        }
        int end = text.indexOf("\n## ", heading.end());
        int at = text.indexOf(words, heading.end());
        if (at < 0 || end >= 0 && at + words.length() > end) {
            return false;
        }
        tell(at, at + words.length());
        return true;
    }

    /** What of the Terms and promises has not been told. */
    List<String> untold() {
        int end = text.indexOf("\n## Not promised");
        List<String> rest = new ArrayList<>();
        StringBuilder run = new StringBuilder();
        for (int i = Math.max(0, text.indexOf("\n## Terms")); i < end; i++) {
            if (!told[i]) {
                run.append(text.charAt(i));
            }
            if (told[i] || i == end - 1) {
                if (run.chars().anyMatch(Character::isLetterOrDigit)) {
                    rest.add(run.toString().strip());
                }
                run.setLength(0);
            }
        }
        return rest;
    }
}
