import java.io.IOException;
import java.nio.file.Files;
import java.nio.file.Path;
import java.util.ArrayList;
import java.util.Arrays;
import java.util.List;

/** The document's own words: which of them a test has quoted, and which none has. */
final class Sentences {
    private final String text;
    private final boolean[] quoted;
    private int from = 0;
    private int to = 0;

    Sentences(Path document) throws IOException {
        text = Files.readString(document).replace("```text", "").replace("```", "").replaceAll("\\s+", " ");
        quoted = new boolean[text.length()];
    }

    /** Whether the document has such a piece; what is quoted from now on is looked for in it. */
    boolean within(String start, String end) {
        int at = text.indexOf(start);
        int behind = at < 0 ? -1 : text.indexOf(end, at + start.length());
        from = behind < 0 ? 0 : at + start.length();
        to = Math.max(behind, 0);
        return behind >= 0;
    }

    /** Whether the words stand there. */
    boolean quote(String words) {
        int at = text.indexOf(words, from);
        if (at < 0 || at + words.length() > to) return false;
        Arrays.fill(quoted, at, at + words.length(), true);
        return true;
    }

    /** What stands there and no test has quoted. */
    List<String> left() {
        List<String> left = new ArrayList<>();
        int start = from;
        for (int i = from; i <= to; i++) {
            if (i < to && !quoted[i]) continue;
            String piece = text.substring(start, i).trim();
            if (piece.chars().anyMatch(Character::isLetterOrDigit)) left.add(piece);
            start = i + 1;
        }
        return left;
    }
}
