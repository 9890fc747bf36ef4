import java.io.IOException;
import java.nio.file.Path;
import java.util.List;

/**
 * What the tests of boundaries share: each quotes the document's sentence that it tests, in the
 * promise or the part where it stands; a sentence that isn't there, or one that no test
 * quotes, is a failure too.
 */
final class Bounds {
    static final long LONG_REFUSAL = 4000000000000000000L;
    static final int LEAN_REFUSAL = 1000000000;

    /** A call that answers a fraction, by part. */
    interface Fraction {
        long part(int part);
    }

    private final Checks checks = new Checks();
    private final Sentences sentences;
    private String place = "";
    private String words = "";
    private int told = 0;

    Bounds() throws IOException {
        sentences = new Sentences(Path.of(System.getProperty("milkfirst.document")));
    }

    void promise(int number) {
        place = "Promise " + number;
        checks.holds(place + " stands in the document", sentences.within("## " + place + ": ", " ## "));
    }

    /** What stands behind the one and before the other. */
    void part(String start, String end) {
        place = start;
        checks.holds(start + " stands in the document", sentences.within(start, end));
    }

    /** From here on the answers are due by these words. */
    void sentence(String quoted) {
        words = quoted;
        told++;
        checks.holds(place + " says: " + quoted, sentences.quote(quoted));
    }

    /** Words that tell what a call is, and no boundary; other tests have them. */
    void plainly(String quoted) {
        checks.holds(place + " says: " + quoted, sentences.quote(quoted));
    }

    void allQuoted() {
        List<String> left = sentences.left();
        checks.holds(place + " has sentences without a test: " + left, left.isEmpty());
    }

    void due(String call, long got, long want) {
        checks.due(place + " \"" + words + "\": " + call, got, want);
    }

    void fraction(String call, Fraction got, long above, long below) {
        due(call + " above", got.part(0), above);
        due(call + " below", got.part(1), below);
    }

    void end(String test) {
        System.out.println(test + ": " + told + " sentences quoted");
        checks.end(test);
    }
}
