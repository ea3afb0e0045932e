import java.nio.charset.StandardCharsets;

/** What the tests share: counting wrong answers, and telling a text by feed(), end() and text(). */
final class Check {
    static final int NONE = -1;
    static final int NOTHING = -1000000001;

    private final String name;
    private int asked;
    private int wrong;

    Check(String name) {
        this.name = name;
    }

    void due(String call, long got, long want) {
        asked++;
        if (got != want) {
            wrong++;
            if (wrong <= 40) {
                System.out.println(name + ": " + call + " answered " + got + ", due is " + want);
            }
        }
    }

    void due(String call, boolean got, boolean want) {
        due(call, got ? 1 : 0, want ? 1 : 0);
    }

    /** Ends the test: exit code 1 if there was a wrong answer, or none was asked for. */
    void finish() {
        System.out.println(name + ": " + asked + " answers, " + wrong + " wrong");
        if (wrong > 0 || asked == 0) {
            System.exit(1);
        }
    }

    int wrong() {
        return wrong;
    }

    static void feed(GuessedPlace place, String text) {
        byte[] bytes = text.getBytes(StandardCharsets.ISO_8859_1);
        int[] words = words(bytes);
        for (int i = 0; i < words.length; i += 5) {
            place.feed(words[i], words[i + 1], words[i + 2], words[i + 3], words[i + 4]);
        }
        place.end(bytes.length);
    }

    static int tell(GuessedPlace place, String text) {
        feed(place, text);
        return place.text();
    }

    /** The numbers to be fed for these bytes, filled up with blanks. */
    static int[] words(byte[] bytes) {
        int[] words = new int[(bytes.length + 19) / 20 * 5];
        for (int i = 0; i < words.length * 4; i++) {
            int b = i < bytes.length ? bytes[i] & 255 : 32;
            words[i / 4] = words[i / 4] << 8 | b;
        }
        return words;
    }

    void fault(GuessedPlace place, String text, int fault, int at) {
        due("text \"" + text + "\"", tell(place, text), NONE);
        due("fault(0) of \"" + text + "\"", place.fault(0), fault);
        due("fault(1) of \"" + text + "\"", place.fault(1), at);
    }
}
