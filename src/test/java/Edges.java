import java.io.IOException;
import java.nio.file.Files;
import java.nio.file.Path;

/**
 * Boundary cases by the document's sentences: each test quotes its sentence first, and a quote that does not stand in
 * that part of the document is a wrong answer, so that no test outlives its sentence.
 */
final class Edges {
    private static final Path DOCUMENT = Path.of("../shared/DOC.md");
    /** What an edge of the numbers themselves is: they wrap around behind it. */
    static final int LEAST_INT = Integer.MIN_VALUE;
    static final int MOST_INT = Integer.MAX_VALUE;

    private final Check check;
    private final String document;
    private String sentence = "no sentence";
    private int sentences;
    private int asked;

    Edges(String name) {
        check = new Check(name);
        document = readDocument();
    }

    private static String readDocument() {
        try {
            return Files.exists(DOCUMENT) ? Files.readString(DOCUMENT).replaceAll("\\s+", " ") : "";
        } catch (IOException e) {
            return "";
        }
    }

    /**
     * What is due from here on is due by these words of that part: "Terms" (what stands ahead of the first), "Term 1" to
     * "Term 4" or "Promise 1" to "Promise 32".
     */
    void sentence(String part, String words) {
        endSentence();
        sentence = part + ", \"" + words + "\"";
        sentences++;
        asked = 0;
        if (!document.isEmpty()) {
            check.due(part + " says \"" + words + "\"", textOf(part).contains(words), true);
        }
    }

    private void endSentence() {
        if (sentences > 0) {
            check.due(sentence + ": is tested", asked > 0, true);
        }
    }

    private String textOf(String part) {
        String number = part.substring(part.indexOf(' ') + 1);
        boolean isTerm = part.startsWith("Term");
        String head = isTerm ? "==== " + number + ". " : "## Promise " + number + ": ";
        int from = document.indexOf(part.equals("Terms") ? "## Terms " : head);
        if (from < 0) {
            return "";
        }
        int nextTerm = document.indexOf("==== ", from + 5);
        int nextPart = document.indexOf("## ", from + 3);
        int end = nextPart < 0 ? document.length() : nextPart;
        return document.substring(from, isTerm && nextTerm >= 0 ? Math.min(end, nextTerm) : end);
    }

    void due(String call, long got, long want) {
        asked++;
        check.due(sentence + ": " + call, got, want);
    }

    void due(String call, boolean got, boolean want) {
        due(call, got ? 1 : 0, want ? 1 : 0);
    }

    /** The text has this fault at this place. */
    void fault(GuessedPlace place, String text, int fault, int at) {
        due("text \"" + text + "\"", Check.tell(place, text), Check.NONE);
        due("fault(0) of \"" + text + "\"", place.fault(0), fault);
        due("fault(1) of \"" + text + "\"", place.fault(1), at);
    }

    /** The text has no fault, and there are so many keys then. */
    void told(GuessedPlace place, String text, int keys) {
        due("text \"" + text + "\"", Check.tell(place, text), keys);
        due("fault(0) of \"" + text + "\"", place.fault(0), 0);
    }

    static GuessedPlace with(String text) {
        GuessedPlace place = new GuessedPlace();
        Check.tell(place, text);
        return place;
    }

    static GuessedPlace withKeys(int... keys) {
        GuessedPlace place = new GuessedPlace();
        place.set(2, 50);
        for (int x : keys) {
            place.insert(x);
        }
        return place;
    }

    /** 300 keys: 1 to 99, 101 to 199, 201 to 299 and 301 to 303. */
    static GuessedPlace full() {
        return with("run 1 99 1;run 101 99 1;run 201 99 1;run 301 3 1;");
    }

    void finish() {
        endSentence();
        System.out.println(sentences + " sentences");
        check.finish();
    }
}
