/** Boundary cases of Term 2 and promises 2 to 5: the tape, texts, faults. */
public final class TapeEdgesTest {
    private static final Edges EDGES = new Edges("TapeEdgesTest");
    private static final int BLANKS = 0x20202020;
    private static final String SIXTY = "room 4;".repeat(60);

    public static void main(String[] args) {
        highestByteFirst();
        fullTape();
        firstBytesAlone();
        endRefused();
        emptyBehindText();
        nothingIsDone();
        noFault();
        otherFault();
        noStatement();
        countTold();
        runTold();
        dropOfNone();
        settingsTold();
        allOrNone();
        words();
        digits();
        minus();
        blanks();
        firstByPlace();
        leastAtOnePlace();
        cantStandThere();
        theEnd();
        beyondBounds();
        lastKeyOfRun();
        statement61();
        moreThan300();
        countAbove99();
        asSoonAsRead();
        asItWouldBeTold();
        EDGES.finish();
    }

    private static void highestByteFirst() {
        EDGES.sentence("Promise 2", "Twenty bytes come behind the TAPE, of each number the highest first: how many it has.");
        GuessedPlace p = new GuessedPlace();
        EDGES.due("the first twenty", p.feed(0x6b657920, 0x313b6b65, 0x7920323b, 0x6b657920, 0x333b6b65), 20);
        EDGES.due("twenty more", p.feed(0x7920343b, 0x0a0a0a0a, BLANKS, BLANKS, BLANKS), 40);
        EDGES.due("key 1; to key 4;", p.text(), 4);
        EDGES.due("1 is told", p.count(1), 1);
        EDGES.due("4 is told across the two", p.count(4), 1);
        for (int shift = 0; shift < 32; shift += 8) {
            GuessedPlace q = new GuessedPlace();
            q.feed(BLANKS, BLANKS, BLANKS, BLANKS, BLANKS ^ (0x20 ^ 0xff) << shift);
            EDGES.due("a byte 255 is none", q.text(), -1);
            EDGES.due("its place, shifted by " + shift, q.fault(1), 19 - shift / 8);
        }
    }

    private static void fullTape() {
        EDGES.sentence("Promise 2", "NONE, and nothing comes, if there would be more than 600.");
        GuessedPlace p = new GuessedPlace();
        for (int i = 1; i <= 30; i++) {
            EDGES.due("feed " + i, p.feed(BLANKS, BLANKS, BLANKS, BLANKS, BLANKS), 20 * i);
        }
        EDGES.due("full", p.feed(-1, -1, -1, -1, -1), -1);
        EDGES.due("full still", p.feed(-1, -1, -1, -1, -1), -1);
        EDGES.due("600 are there", p.end(600), true);
        EDGES.due("601 are not", p.end(601), false);
        p.end(581);
        EDGES.due("601 would be", p.feed(-1, -1, -1, -1, -1), -1);
        EDGES.due("nothing came", p.end(582), false);
        EDGES.due("nothing went", p.end(581), true);
        p.end(580);
        EDGES.due("600 would be", p.feed(BLANKS, BLANKS, BLANKS, BLANKS, BLANKS), 600);
        EDGES.due("none of the refused bytes is there", p.text(), 0);
    }

    private static void firstBytesAlone() {
        EDGES.sentence("Promise 3", "The TAPE has its first n bytes alone: true");
        GuessedPlace p = new GuessedPlace();
        EDGES.due("0 of none", p.end(0), true);
        Check.feed(p, "key 1;key 2;key 3;");
        EDGES.due("all", p.end(18), true);
        EDGES.due("all but one statement", p.end(12), true);
        EDGES.due("what was cut is gone", p.end(13), false);
        EDGES.due("twenty more", p.feed(BLANKS, BLANKS, BLANKS, BLANKS, BLANKS), 32);
        EDGES.due("key 3 did not come back", p.text(), 2);
        Check.feed(p, "key 9;");
        EDGES.due("0 of six", p.end(0), true);
        EDGES.due("nothing is told", p.text(), 2);
        cut(p, "slack 21;", 7, 7);
        cut(p, "roomy 4;", 4, 4);
        cut(p, "key 5;key 6;", 11, 11);
    }

    /** Of the text the first bytes alone are told: it ends there, in the midst of a token or a statement. */
    private static void cut(GuessedPlace p, String text, int end, int place) {
        Check.feed(p, text);
        EDGES.due("\"" + text + "\" cut", p.end(end), true);
        EDGES.due("\"" + text + "\" cut is told", p.text(), -1);
        EDGES.due("its fault", p.fault(0), 1);
        EDGES.due("its place", p.fault(1), place);
    }

    private static void endRefused() {
        EDGES.sentence("Promise 3", "false, changing nothing, if it has not so many, or n is below 0.");
        GuessedPlace p = new GuessedPlace();
        EDGES.due("1 of none", p.end(1), false);
        Check.feed(p, "key 1;");
        EDGES.due("one too many", p.end(7), false);
        EDGES.due("far too many", p.end(Edges.MOST_INT), false);
        EDGES.due("below 0", p.end(-1), false);
        EDGES.due("far below 0", p.end(Edges.LEAST_INT), false);
        EDGES.due("nothing changed", p.text(), 1);
    }

    private static void emptyBehindText() {
        EDGES.sentence("Promise 4", "The TAPE, empty then, is told: how many KEYS there are.");
        GuessedPlace p = new GuessedPlace();
        EDGES.due("an empty tape", p.text(), 0);
        EDGES.told(p, "key 5 9;key 6;", 2);
        EDGES.due("the tape is empty", p.end(1), false);
        EDGES.due("an empty one tells nothing more", p.text(), 2);
        EDGES.due("5 was told once", p.count(5), 9);
        EDGES.fault(p, "key", 1, 3);
        EDGES.due("empty behind a fault, too", p.end(1), false);
        EDGES.due("the first twenty", p.feed(BLANKS, BLANKS, BLANKS, BLANKS, BLANKS), 20);
        GuessedPlace waits = Edges.withKeys(1, 2, 3);
        EDGES.told(waits, "key 4;", 4);
        EDGES.told(waits, "drop 1;drop 2;drop 3;drop 4;", 0);
    }

    private static void nothingIsDone() {
        EDGES.sentence("Promise 4", "NONE: a FAULT (nothing is done).");
        GuessedPlace p = Edges.with("key 1 3;key 2;");
        p.insert(3);
        p.insert(4);
        p.undo(true);
        EDGES.fault(p, "drop 1;key 2 7;run 10 5 1;slack 9;upper 9;room 0;x", 1, 49);
        int[] looks = {3, 2, 1, 0, 1, 2, 1, 1};
        for (int what = 0; what < looks.length; what++) {
            EDGES.due("look " + what, p.look(what), looks[what]);
        }
        EDGES.due("slack", p.look(20), 1);
        EDGES.due("upper", p.look(21), 1);
        EDGES.due("room", p.look(22), 4);
        EDGES.due("dropped none", p.count(1), 3);
        EDGES.due("added none", p.count(2), 1);
        EDGES.due("the undone act is redone", p.undo(false), 4);
    }

    private static void noFault() {
        EDGES.sentence("Promise 5", "what 0 the FAULT (0 without one), 1 its place (NONE).");
        GuessedPlace p = new GuessedPlace();
        EDGES.due("no text yet", p.fault(0), 0);
        EDGES.due("no place yet", p.fault(1), -1);
        EDGES.fault(p, "x", 1, 0);
        EDGES.due("asked again", p.fault(0), 1);
        p.insert(5);
        p.build();
        p.set(0, 3);
        EDGES.due("other calls leave it", p.fault(0), 1);
        EDGES.due("its place, too", p.fault(1), 0);
        EDGES.told(p, "key 1;", 2);
        EDGES.due("of the latest alone", p.fault(0), 0);
        EDGES.due("no place", p.fault(1), -1);
        EDGES.fault(p, "slack 99;", 2, 6);
        EDGES.due("an empty one is one, too", p.text(), 2);
        EDGES.due("the empty one has none", p.fault(0), 0);
        EDGES.due("nor a place", p.fault(1), -1);
    }

    private static void otherFault() {
        EDGES.sentence("Promise 5", "NONE for another what.");
        GuessedPlace p = new GuessedPlace();
        Check.tell(p, "key 1;x");
        for (int what : new int[] {-1, 2, 3, Edges.LEAST_INT, Edges.MOST_INT}) {
            EDGES.due("fault " + what, p.fault(what), -1);
        }
    }

    private static void noStatement() {
        EDGES.sentence("Term 2", "A TEXT tells {STATEMENT ;}.");
        GuessedPlace p = new GuessedPlace();
        EDGES.told(p, "", 0);
        EDGES.told(p, " ", 0);
        EDGES.told(p, "\n \n", 0);
        EDGES.told(p, "key 1;", 1);
        EDGES.told(p, "key 1;key 2;", 2);
        EDGES.fault(p, ";", 1, 0);
        EDGES.fault(p, "key 3;;", 1, 6);
        EDGES.fault(p, "key 3;key 4", 1, 11);
        EDGES.due("no 3", p.count(3), 0);
    }

    private static void countTold() {
        EDGES.sentence("Term 2", "key: a KEY, COUNT 1 (or as told, 1 .. 99) more");
        GuessedPlace p = Edges.with("key 1;key 2 1;key 3 99;key 4 98;key 4;key -999999999 2;key 999999999 3;");
        int[] keys = {1, 2, 3, 4, -999999999, 999999999};
        int[] counts = {1, 1, 99, 99, 2, 3};
        for (int i = 0; i < keys.length; i++) {
            EDGES.due("count of " + keys[i], p.count(keys[i]), counts[i]);
        }
        EDGES.fault(p, "key 5 0;", 2, 6);
        EDGES.fault(p, "key 5 100;", 2, 6);
        EDGES.fault(p, "key 5 -1;", 2, 6);
        EDGES.fault(p, "key 5 999999999;", 2, 6);
    }

    private static void runTold() {
        EDGES.sentence("Term 2", "run A n S: n (1 .. 99) KEYS from A on, each S (1 .. 99999) behind the one ahead,"
            + " COUNT 1 more each");
        GuessedPlace one = Edges.with("run 7 1 1;");
        EDGES.due("one key", one.look(0), 1);
        EDGES.due("A itself", one.count(7), 1);
        EDGES.told(one, "run 7 1 99999;", 1);
        EDGES.due("one more", one.count(7), 2);
        GuessedPlace most = Edges.with("run -5 99 99999;");
        EDGES.due("99 keys", most.look(0), 99);
        EDGES.due("the first", most.key(0), -5);
        EDGES.due("the second", most.key(1), 99994);
        EDGES.due("the last", most.key(98), 9799897);
        EDGES.fault(most, "run 1 0 1;", 2, 6);
        EDGES.fault(most, "run 1 100 1;", 2, 6);
        EDGES.fault(most, "run 1 -1 1;", 2, 6);
        EDGES.fault(most, "run 1 1 0;", 2, 8);
        EDGES.fault(most, "run 1 1 100000;", 2, 8);
        EDGES.fault(most, "run 1 1 -1;", 2, 8);
        EDGES.told(most, "run -999999999 2 1;", 101);
        EDGES.due("the least", most.key(0), -999999999);
    }

    private static void dropOfNone() {
        EDGES.sentence("Term 2", "drop: that KEY has COUNT 0 (if it is one).");
        GuessedPlace p = Edges.with("key 1 99;key 2;");
        EDGES.told(p, "drop 3;", 2);
        EDGES.told(p, "drop 1;", 1);
        EDGES.due("all 99", p.count(1), 0);
        EDGES.told(p, "drop 1;drop 1;", 1);
        EDGES.told(p, "drop -999999999;drop 999999999;", 1);
        p.remove(2);
        EDGES.due("gone", p.look(3), 1);
        EDGES.told(p, "drop 2;", 0);
        EDGES.due("no row", p.look(1), 0);
        GuessedPlace waits = Edges.withKeys(5, 6);
        EDGES.told(waits, "drop 5;", 1);
        EDGES.due("of the buffer", waits.count(5), 0);
    }

    private static void settingsTold() {
        EDGES.sentence("Term 2", "slack N | upper N | room N.");
        GuessedPlace p = new GuessedPlace();
        EDGES.told(p, "slack 0;upper 0;room 0;", 0);
        EDGES.due("slack", p.look(20), 0);
        EDGES.due("upper", p.look(21), 0);
        EDGES.due("room", p.look(22), 0);
        EDGES.told(p, "slack 20;upper 20;room 50;", 0);
        EDGES.due("slack", p.look(20), 20);
        EDGES.due("upper", p.look(21), 20);
        EDGES.due("room", p.look(22), 50);
        for (String word : new String[] {"slack ", "upper ", "room "}) {
            String tooMany = word.equals("room ") ? "51;" : "21;";
            EDGES.fault(p, word + tooMany, 2, word.length());
            EDGES.fault(p, word + "-1;", 2, word.length());
            EDGES.told(p, word + "-0;", 0);
        }
    }

    private static void allOrNone() {
        EDGES.sentence("Term 2", "They are told one after another, all or none.");
        GuessedPlace p = new GuessedPlace();
        EDGES.told(p, "key 1 99;drop 1;key 1 2;", 1);
        EDGES.due("in their order", p.count(1), 2);
        EDGES.told(p, "slack 3;slack 4;", 1);
        EDGES.due("the last counts", p.look(20), 4);
        EDGES.fault(p, "key 2;key 3;key 4 0;", 2, 18);
        EDGES.due("none", p.look(0), 1);
        EDGES.fault(p, "key 2;key 3;key 1 98;", 3, 12);
        EDGES.due("none", p.look(0), 1);
    }

    private static void words() {
        EDGES.sentence("Term 2", "letters as many as stand together are KEYWORDS (those told here) or none");
        GuessedPlace p = new GuessedPlace();
        EDGES.told(p, "key1;run2 1 1;drop1;slack1;upper1;room4;", 1);
        String[] none = {"ke", "keyy", "keykey", "keyrun", "KEY", "Key", "keY", "k", "z", "Z", "set", "rooms", "ru",
            "keya", "keyz", "keyA", "keyZ"};
        for (String word : none) {
            EDGES.fault(p, word + " 1;", 1, 0);
            EDGES.fault(p, "key 1;\n" + word, 1, 7);
        }
        EDGES.fault(p, "k ey 1;", 1, 0);
        EDGES.fault(p, "key 1key 2;", 1, 5);
        for (char sign : "@[`{_".toCharArray()) {
            EDGES.fault(p, "key" + sign + "1;", 1, 3);
        }
        EDGES.fault(p, "key" + (char) 228 + "1;", 1, 3);
    }

    private static void digits() {
        EDGES.sentence("Term 2", "digits as many as stand together NUMBERS of 1 to 9 digits or none");
        GuessedPlace p = new GuessedPlace();
        EDGES.told(p, "key 0;key 9;key 999999999;key 000000001;", 4);
        EDGES.due("nine digits", p.count(999999999), 1);
        EDGES.due("zeros ahead count as digits", p.count(1), 1);
        EDGES.fault(p, "key 1000000000;", 1, 4);
        EDGES.fault(p, "key 0000000001;", 1, 4);
        EDGES.fault(p, "key 5 0000000001;", 1, 6);
        EDGES.fault(p, "slack 99999999999999999999;", 1, 6);
        EDGES.fault(p, "key 4294967297;", 1, 4);
        EDGES.fault(p, "key 1 2 3;", 1, 8);
        for (char sign : "/:.+".toCharArray()) {
            EDGES.fault(p, "key 1" + sign + "2;", 1, 5);
        }
    }

    private static void minus() {
        EDGES.sentence("Term 2", "with a - right ahead (- alone: none)");
        GuessedPlace p = new GuessedPlace();
        EDGES.told(p, "key -1;key-2;key -999999999;key -0;", 4);
        EDGES.due("-1", p.count(-1), 1);
        EDGES.due("-2", p.count(-2), 1);
        EDGES.due("the least", p.count(-999999999), 1);
        EDGES.due("-0 is 0", p.count(0), 1);
        EDGES.fault(p, "key -;", 1, 4);
        EDGES.fault(p, "key - 1;", 1, 4);
        EDGES.fault(p, "key --1;", 1, 4);
        EDGES.fault(p, "key -\n1;", 1, 4);
        EDGES.fault(p, "key 1-;", 1, 5);
        EDGES.fault(p, "-", 1, 0);
        EDGES.fault(p, "key -1000000000;", 1, 4);
        EDGES.fault(p, "key -0000000001;", 1, 4);
        EDGES.fault(p, "key 1-2;", 2, 5);
    }

    private static void blanks() {
        EDGES.sentence("Term 2", "Blanks (32, 10) between.");
        GuessedPlace p = new GuessedPlace();
        EDGES.told(p, "  \n key \n 1 \n 2 \n ; \n ", 1);
        EDGES.due("count 2", p.count(1), 2);
        EDGES.told(p, "key\n1\n2\n;", 1);
        for (int sign : new int[] {0, 9, 11, 12, 13, 31, 33, 127, 128, 133, 138, 160, 255}) {
            EDGES.fault(p, "key" + (char) sign + "1;", 1, 3);
            EDGES.fault(p, "key 1;" + (char) sign, 1, 6);
        }
    }

    private static void firstByPlace() {
        EDGES.sentence("Term 2", "FAULTS, the first by its place");
        GuessedPlace p = Edges.with("key 5 99;");
        EDGES.fault(p, "slack 21;key 5;x", 2, 6);
        EDGES.fault(p, "key 5;slack 21;x", 3, 0);
        EDGES.fault(p, "x;key 5;slack 21;", 1, 0);
        EDGES.fault(p, "key 5 x", 3, 0);
        EDGES.fault(p, "key 6 100 x", 2, 6);
        EDGES.fault(p, "run 1 0 0;", 2, 6);
        EDGES.fault(p, "run 5 1 x", 1, 8);
        EDGES.fault(p, "key 1 x;", 1, 6);
    }

    private static void leastAtOnePlace() {
        EDGES.sentence("Term 2", "at one place the least");
        GuessedPlace p = new GuessedPlace();
        String fiftyNine = "room 4;".repeat(59);
        // A keyword where a ; must stand is also where a 61st statement would begin.
        EDGES.fault(p, fiftyNine + "room 4 room 4;", 1, 420);
        EDGES.fault(p, SIXTY + "rooms", 1, 420);
        EDGES.fault(p, SIXTY + ";", 1, 420);
        EDGES.fault(p, SIXTY + "4", 1, 420);
        // A number of ten digits is none: it can't stand there, whatever its bounds.
        EDGES.fault(p, "room 1111111111;", 1, 5);
    }

    private static void cantStandThere() {
        EDGES.sentence("Term 2", "1 what can't stand there");
        GuessedPlace p = new GuessedPlace();
        String[] texts = {"1;", "key;", "key ;", "key key;", "key 1 key;", "run;", "run 1;", "run 1 2;", "run 1 2 3 4;",
            "drop;", "drop 1 2;", "slack;", "slack 1 1;", "upper;", "upper 1 1;", "room;", "room 1 1;", "run 1 2 key;"};
        int[] places = {0, 3, 4, 4, 6, 3, 5, 7, 10, 4, 7, 5, 8, 5, 8, 4, 7, 8};
        for (int i = 0; i < texts.length; i++) {
            EDGES.fault(p, texts[i], 1, places[i]);
        }
        EDGES.fault(p, ";".repeat(600), 1, 0);
        EDGES.fault(p, " ".repeat(599) + ";", 1, 599);
    }

    private static void theEnd() {
        EDGES.sentence("Term 2", "(the end: the text's length)");
        GuessedPlace p = new GuessedPlace();
        for (String text : new String[] {"key", "key 1", "key 1 1", "run", "run 1", "run 1 1", "run 1 1 1", "drop",
            "drop 1", "slack", "slack 1", "upper", "upper 1", "room", "room 1", "key 1;key"}) {
            EDGES.fault(p, text, 1, text.length());
            EDGES.fault(p, text + " \n ", 1, text.length() + 3);
        }
        EDGES.fault(p, "key" + " ".repeat(597), 1, 600);
        EDGES.fault(p, " ".repeat(597) + "key", 1, 600);
        EDGES.fault(p, " ".repeat(593) + "key 123", 1, 600);
    }

    private static void beyondBounds() {
        EDGES.sentence("Term 2", "2 (at the NUMBER) one beyond its bounds");
        GuessedPlace p = new GuessedPlace();
        EDGES.fault(p, "key 1  0 ;", 2, 7);
        EDGES.fault(p, "key 1 -5;", 2, 6);
        EDGES.fault(p, "key 1;run 1  100 1;", 2, 13);
        EDGES.fault(p, "run 1 1  100000;", 2, 9);
        EDGES.fault(p, "slack\n-1;", 2, 6);
        EDGES.fault(p, "slack 21", 2, 6);
        EDGES.fault(p, "upper 21", 2, 6);
        EDGES.fault(p, "room 51", 2, 5);
        EDGES.fault(p, "key 1 100", 2, 6);
    }

    private static void lastKeyOfRun() {
        EDGES.sentence("Term 2", "(of run: its last KEY, at the S)");
        GuessedPlace p = new GuessedPlace();
        EDGES.told(p, "run 999999999 1 99999;", 1);
        EDGES.told(p, "run 999999901 99 1;", 99);
        EDGES.fault(p, "run 999999902 99 1;", 2, 17);
        EDGES.fault(p, "run 999999999 2 1;", 2, 16);
        EDGES.told(p, "run 990200097 99 99999;", 197);
        EDGES.fault(p, "run 990200098 99 99999;", 2, 17);
        EDGES.due("none of it", p.look(0), 197);
        // At the S even if a key of it has its 99 already: its numbers are not read rightly.
        EDGES.told(p, "key 999999999 96;", 197);
        EDGES.due("99", p.count(999999999), 99);
        EDGES.fault(p, "run 999999999 2 1;", 2, 16);
    }

    private static void statement61() {
        EDGES.sentence("Term 2", "3 (at its KEYWORD) the 61st STATEMENT");
        GuessedPlace p = new GuessedPlace();
        EDGES.told(p, SIXTY, 0);
        EDGES.told(p, SIXTY + " \n", 0);
        EDGES.fault(p, SIXTY + "room 4;", 3, 420);
        EDGES.fault(p, SIXTY + " \n room 4;", 3, 423);
        EDGES.fault(p, SIXTY + "key", 3, 420);
        EDGES.fault(p, SIXTY + "slack 21;", 3, 420);
        EDGES.fault(p, "room 4;".repeat(62), 3, 420);
        EDGES.told(p, "key 1;".repeat(60), 1);
        EDGES.due("all sixty are told", p.count(1), 60);
    }

    private static void moreThan300() {
        EDGES.sentence("Term 2", "a key or run by which there would be more than 300 KEYS");
        GuessedPlace p = Edges.full();
        EDGES.due("300 can be", p.look(0), 300);
        EDGES.fault(p, "key 0;", 3, 0);
        EDGES.fault(p, "key 1; run 0 1 1;", 3, 7);
        EDGES.fault(p, "run 302 3 1;", 3, 0);
        EDGES.told(p, "run 301 3 1;", 300);
        EDGES.told(p, "key 1;", 300);
        EDGES.told(p, "drop 1;", 299);
        EDGES.fault(p, "run 0 2 1;", 3, 0);
        EDGES.fault(p, "key 0;key 1;", 3, 6);
        EDGES.told(p, "run 0 1 1;", 300);
        GuessedPlace waits = Edges.full();
        waits.remove(1);
        waits.insert(1000);
        EDGES.fault(waits, "key 1;", 3, 0);
        EDGES.told(waits, "key 1000;", 300);
    }

    private static void countAbove99() {
        EDGES.sentence("Term 2", "or a COUNT above 99");
        GuessedPlace p = new GuessedPlace();
        EDGES.told(p, "key 1 50;key 1 49;", 1);
        EDGES.due("99 can be", p.count(1), 99);
        EDGES.fault(p, "key 1;", 3, 0);
        EDGES.fault(p, "key 1 99;", 3, 0);
        EDGES.fault(p, "key 2; run -1 3 1;", 3, 7);
        EDGES.fault(p, "key 2 60;key 2 40;", 3, 9);
        EDGES.told(p, "key 2 60;key 2 39;", 2);
        EDGES.told(p, "key 8 98;run 8 1 1;", 3);
        EDGES.due("99 by a run", p.count(8), 99);
        EDGES.told(p, "drop 8;", 2);
        EDGES.told(p, "run 3 1 1;", 3);
        EDGES.fault(p, "run 1 3 1;", 3, 0);
    }

    private static void asSoonAsRead() {
        EDGES.sentence("Term 2", "(at its KEYWORD, as soon as its NUMBERS are read)");
        GuessedPlace p = Edges.with("key 1 99;");
        EDGES.fault(p, "  key 1", 3, 2);
        EDGES.fault(p, "key 1 1 1;", 3, 0);
        EDGES.fault(p, "key 1 key", 3, 0);
        EDGES.fault(p, "run 1 1 1 1;", 3, 0);
        EDGES.fault(p, "run 1 1 1", 3, 0);
        EDGES.fault(p, "key", 1, 3);
        EDGES.fault(p, "run 1 1", 1, 7);
        EDGES.fault(p, "key 1 0;", 2, 6);
        EDGES.fault(p, "run 1 1 0;", 2, 8);
    }

    private static void asItWouldBeTold() {
        EDGES.sentence("Term 2", "as it would be told then");
        GuessedPlace p = Edges.full();
        EDGES.told(p, "drop 1;key 0;", 300);
        EDGES.fault(p, "key 1;drop 0;", 3, 0);
        EDGES.fault(p, "drop 1;key 1;", 3, 7);
        EDGES.told(p, "drop 0;key 1 99;drop 1;key 1 99;", 300);
        EDGES.fault(p, "key 1;drop 1;", 3, 0);
        p.remove(303);
        EDGES.told(p, "key 304;", 300);
        EDGES.due("a gone one made room", p.count(304), 1);
    }
}
