/** Boundary cases of Term 1, of ACTS in Term 4 and of promises 1 and 6 to 14: keys, settings, acts, ranges. */
public final class KeyEdgesTest {
    private static final Edges EDGES = new Edges("KeyEdgesTest");
    private static final int[] LEAST = {0, 0, 0, 1, 2, 8, 1, 0};
    private static final int[] MOST = {20, 20, 50, 99, 99, 512, 4, 99999};

    public static void main(String[] args) {
        newObject();
        whichNumbers();
        at300();
        counts();
        rowAndBuffer();
        goneTillBuilt();
        keysAbove0();
        settingsAtFirst();
        building();
        buildsBeyondRoom();
        buildsByText();
        buildsBySlackOrUpper();
        cost();
        setRefused();
        roomBelowBuffer();
        waits();
        insertRefused();
        removeTo0();
        removeRefused();
        lastTwenty();
        redoneTill();
        forgotten();
        countsAheadAndBehind();
        nothingBuiltAgain();
        noAct();
        buildCosts();
        countOfNone();
        keyOfNone();
        ranks();
        ranges();
        rangeTurned();
        otherRange();
        EDGES.finish();
    }

    private static void looks(GuessedPlace p, String when, int... want) {
        for (int what = 0; what < want.length; what++) {
            EDGES.due("look " + what + " " + when, p.look(what), want[what]);
        }
    }

    private static void newObject() {
        EDGES.sentence("Promise 1", "No keys.");
        GuessedPlace p = new GuessedPlace();
        looks(p, "of a new one", 0, 0, 0, 0, 0, 0, 0, 0, 0, 0);
        EDGES.due("key 0", p.key(0), Check.NOTHING);
        EDGES.due("count 0", p.count(0), 0);
        EDGES.due("all", p.range(Edges.LEAST_INT, Edges.MOST_INT, 0), 0);
        EDGES.due("another object's keys are its own", Edges.full().look(0) + p.look(0), 300);
        EDGES.sentence("Term 4", "`NONE = -1`: None.");
        EDGES.due("NONE", GuessedPlace.NONE, -1);
    }

    private static void whichNumbers() {
        EDGES.sentence("Term 1", "KEYS are whole numbers -999999999 .. 999999999");
        GuessedPlace p = new GuessedPlace();
        EDGES.due("the least", p.insert(-999999999), 1);
        EDGES.due("the greatest", p.insert(999999999), 1);
        EDGES.due("0", p.insert(0), 1);
        for (int x : new int[] {-1000000000, 1000000000, Check.NOTHING, Edges.LEAST_INT, Edges.MOST_INT}) {
            EDGES.due("insert " + x, p.insert(x), -1);
            EDGES.due("count " + x, p.count(x), 0);
        }
        looks(p, "with three", 3, 0, 3, 0, 0, 0, 3);
    }

    private static void at300() {
        EDGES.sentence("Term 1", "at most 300 unlike ones");
        GuessedPlace p = Edges.with("run 1 99 1;run 101 99 1;run 201 99 1;run 301 2 1;");
        EDGES.due("the 300th", p.insert(303), 1);
        EDGES.due("the 301st", p.insert(304), -1);
        EDGES.due("alike ones", p.insert(303), 2);
        looks(p, "with 300", 300, 299, 1, 0);
        EDGES.due("build", p.build(), 300);
        EDGES.due("still no 301st", p.insert(304), -1);
        EDGES.due("the last of all", p.key(299), 303);
    }

    private static void counts() {
        EDGES.sentence("Term 1", "each with a COUNT 1 .. 99");
        GuessedPlace p = Edges.with("key 5 98;");
        EDGES.due("the 99th", p.insert(5), 99);
        EDGES.due("the 100th", p.insert(5), -1);
        EDGES.due("count", p.count(5), 99);
        EDGES.due("one less", p.remove(5), 98);
        EDGES.due("one more", p.insert(5), 99);
        GuessedPlace waits = new GuessedPlace();
        for (int i = 1; i <= 99; i++) {
            EDGES.due("of one that waits", waits.insert(5), i);
        }
        EDGES.due("the 100th of one that waits", waits.insert(5), -1);
    }

    private static void rowAndBuffer() {
        EDGES.sentence("Term 1", "BUILT ones stand in a ROW, the least first, at places 0 ..; others wait in the BUFFER"
            + " (sorted, too).");
        GuessedPlace p = Edges.withKeys(30, -10, 20);
        EDGES.due("no row yet", p.seek(30, 0), 0);
        looks(p, "ahead of building", 3, 0, 3);
        p.build();
        EDGES.due("the least", p.seek(-10, 0), 0);
        EDGES.due("the next", p.seek(20, 0), 1);
        EDGES.due("the greatest", p.seek(30, 0), 2);
        p.insert(25);
        p.insert(-20);
        p.insert(40);
        int[] sorted = {-20, -10, 20, 25, 30, 40};
        for (int i = 0; i < sorted.length; i++) {
            EDGES.due("key " + i, p.key(i), sorted[i]);
        }
        EDGES.due("waiting ones stand nowhere", p.seek(30, 0), 2);
        looks(p, "of both", 6, 3, 3);
    }

    private static void goneTillBuilt() {
        EDGES.sentence("Term 1", "A key that was BUILT and whose COUNT came to 0 stays in the ROW as GONE till all is"
            + " BUILT anew.");
        GuessedPlace p = Edges.with("run 0 3 10;");
        p.remove(10);
        looks(p, "with one gone", 2, 3, 0, 1);
        EDGES.due("it stands there", p.seek(20, 0), 2);
        p.insert(5);
        looks(p, "with one that waits", 3, 3, 1, 1);
        p.build();
        looks(p, "built anew", 3, 3, 0, 0);
        EDGES.due("it stands there no more", p.seek(20, 0), 2);
        p.remove(0);
        p.remove(5);
        p.remove(20);
        looks(p, "all gone", 0, 3, 0, 3, 1);
        EDGES.due("a row of gone ones has a level", p.look(10), 1);
        p.build();
        looks(p, "none", 0, 0, 0, 0, 0);
        EDGES.due("no row has none", p.look(10), -1);
        GuessedPlace byRoom = Edges.with("run 0 3 10;room 0;");
        byRoom.remove(10);
        byRoom.insert(5);
        looks(byRoom, "built by itself", 3, 3, 0, 0);
        GuessedPlace full = Edges.full();
        full.remove(303);
        full.insert(0);
        looks(full, "of 300 keys, one gone above them all", 300, 300, 1, 1);
    }

    private static void keysAbove0() {
        EDGES.sentence("Term 1", "KEYS are those with a COUNT above 0.");
        GuessedPlace p = Edges.with("key 1;key 2 2;key 3;");
        p.remove(1);
        p.remove(2);
        EDGES.due("keys", p.look(0), 2);
        EDGES.due("a gone one is none", p.key(0), 2);
        EDGES.due("a gone one has no rank's share", p.rank(3), 1);
        EDGES.due("nor a range's", p.range(1, 3, 0), 2);
        EDGES.due("nor a count", p.count(1), 0);
        EDGES.due("nor is it laid", p.lay(), 2);
        EDGES.due("the first laid", p.cell(0), 2);
    }

    private static void settingsAtFirst() {
        EDGES.sentence("Term 1", "SLACK E 0 .. 20 (1 at first), UPPER 0 .. 20 (1 at first; the slack of levels above),"
            + " ROOM 0 .. 50 (4 at first; of the BUFFER), PAGE 1 .. 99 (8 at first), ORDER 2 .. 99 (8 at first; of a"
            + " tree).");
        int[] first = {1, 1, 4, 8, 8};
        GuessedPlace p = new GuessedPlace();
        for (int what = 0; what < 5; what++) {
            EDGES.due("at first " + what, p.look(20 + what), first[what]);
            bounds(p, what);
        }
    }

    private static void bounds(GuessedPlace p, int what) {
        EDGES.due("the least of " + what, p.set(what, LEAST[what]), true);
        EDGES.due("is told", p.look(20 + what), LEAST[what]);
        EDGES.due("one less of " + what, p.set(what, LEAST[what] - 1), false);
        EDGES.due("is not told", p.look(20 + what), LEAST[what]);
        EDGES.due("the most of " + what, p.set(what, MOST[what]), true);
        EDGES.due("is told", p.look(20 + what), MOST[what]);
        EDGES.due("one more of " + what, p.set(what, MOST[what] + 1), false);
        EDGES.due("is not told", p.look(20 + what), MOST[what]);
    }

    private static void building() {
        EDGES.sentence("Term 1", "BUILD: all KEYS stand in the ROW, the BUFFER is empty; BUILDING costs as many as stand"
            + " there then.");
        GuessedPlace p = new GuessedPlace();
        EDGES.due("none", p.build(), 0);
        looks(p, "of none", 0, 0, 0, 0, 0, 0);
        p.insert(1);
        p.insert(1);
        p.insert(2);
        EDGES.due("two keys, whatever their counts", p.build(), 2);
        looks(p, "of two", 2, 2, 0, 0, 1, 2);
        p.remove(2);
        p.insert(3);
        p.insert(4);
        EDGES.due("gone ones cost nothing", p.build(), 3);
        looks(p, "of three", 3, 3, 0, 0, 1, 5);
        EDGES.due("all is built already, and costs again", p.build(), 3);
        EDGES.due("300", Edges.full().build(), 300);
    }

    private static void buildsBeyondRoom() {
        EDGES.sentence("Term 1", "It goes by itself when the BUFFER would have more than ROOM");
        for (int room : new int[] {0, 1, 4, 49, 50}) {
            GuessedPlace p = new GuessedPlace();
            p.set(2, room);
            for (int i = 0; i < room; i++) {
                p.insert(i);
            }
            looks(p, "as many as room " + room, room, 0, room, 0, 0, 0);
            EDGES.due("one more than room " + room, p.insert(room), 1);
            looks(p, "beyond room " + room, room + 1, room + 1, 0, 0, 1, room + 1, Math.min(20, room + 1));
        }
        GuessedPlace first = new GuessedPlace();
        for (int i = 0; i < 4; i++) {
            first.insert(i);
        }
        EDGES.due("four wait at first", first.look(2), 4);
        first.insert(4);
        EDGES.due("the fifth does not", first.look(2), 0);
        GuessedPlace built = Edges.with("key 1;room 0;");
        built.insert(1);
        built.remove(1);
        built.remove(1);
        built.insert(1);
        EDGES.due("a built one waits not, nor does a gone one", built.look(5), 1);
    }

    private static void buildsByText() {
        EDGES.sentence("Term 1", "when all of a TEXT was told");
        GuessedPlace p = Edges.withKeys(1, 2);
        p.text();
        looks(p, "behind an empty text", 2, 2, 0, 0, 1, 2);
        p.remove(1);
        Check.tell(p, " ");
        looks(p, "behind a blank", 1, 1, 0, 0, 1, 3);
        p.set(2, 0);
        Check.tell(p, "key 5;key 6;key 7;slack 3;upper 3;drop 7;");
        looks(p, "once for all of it", 3, 3, 0, 0, 1, 6);
        p.set(2, 9);
        p.insert(9);
        Check.tell(p, "key 10");
        looks(p, "not by one with a fault", 4, 3, 1, 0, 1, 6);
    }

    private static void buildsBySlackOrUpper() {
        EDGES.sentence("Term 1", "and when E or UPPER is told.");
        GuessedPlace p = Edges.withKeys(1, 2);
        for (int what = 2; what < 8; what++) {
            p.set(what, MOST[what]);
        }
        looks(p, "not by others", 2, 0, 2, 0, 0, 0, 2);
        p.set(0, -1);
        p.set(1, 21);
        looks(p, "nor by what can't be", 2, 0, 2, 0, 0, 0, 2);
        p.set(0, 1);
        looks(p, "by a slack as it was", 2, 2, 0, 0, 1, 2, 0);
        p.insert(3);
        p.set(1, 1);
        looks(p, "by an upper as it was", 3, 3, 0, 0, 1, 5, 0);
        p.set(0, 0);
        p.set(1, 20);
        EDGES.due("each costs", p.look(5), 11);
    }

    private static void cost() {
        EDGES.sentence("Term 1", "COST: all that was spent so since first.");
        GuessedPlace p = new GuessedPlace();
        EDGES.due("nothing at first", p.look(5), 0);
        p.set(2, 1);
        p.insert(1);
        EDGES.due("waiting costs nothing", p.look(5), 0);
        p.insert(2);
        EDGES.due("by itself", p.look(5), 2);
        p.build();
        EDGES.due("build", p.look(5), 4);
        Check.tell(p, "key 3;");
        EDGES.due("text", p.look(5), 7);
        p.set(0, 2);
        EDGES.due("slack", p.look(5), 10);
        p.remove(3);
        p.undo(true);
        p.undo(false);
        EDGES.due("no acts", p.look(5), 10);
        Check.tell(p, "drop 1;drop 2;");
        EDGES.due("none is built, nothing is spent", p.look(5), 10);
        GuessedPlace most = Edges.full();
        for (int i = 0; i < 200; i++) {
            most.build();
        }
        EDGES.due("201 times 300", most.look(5), 60300);
    }

    private static void setRefused() {
        EDGES.sentence("Promise 6", "true; false if one can't be, or another what.");
        GuessedPlace p = new GuessedPlace();
        for (int what = 0; what < 8; what++) {
            bounds(p, what);
            EDGES.due("far less of " + what, p.set(what, Edges.LEAST_INT), false);
            EDGES.due("far more of " + what, p.set(what, Edges.MOST_INT), false);
            EDGES.due("as it was", p.look(20 + what), MOST[what]);
        }
        for (int what : new int[] {-1, 8, 20, Edges.LEAST_INT, Edges.MOST_INT}) {
            EDGES.due("set " + what, p.set(what, 8), false);
        }
        for (int what = 0; what < 8; what++) {
            EDGES.due("as it was", p.look(20 + what), MOST[what]);
        }
    }

    private static void roomBelowBuffer() {
        EDGES.sentence("Promise 6", "(2: the BUFFER may have more then; it is BUILT with the next KEY that would wait.)");
        GuessedPlace p = new GuessedPlace();
        for (int i = 0; i < 4; i++) {
            p.insert(i);
        }
        p.set(2, 0);
        looks(p, "more than room", 4, 0, 4, 0, 0, 0);
        EDGES.due("one that waits already", p.insert(3), 2);
        EDGES.due("another leaves", p.remove(0), 0);
        looks(p, "still more than room", 3, 0, 3, 0, 0, 0);
        EDGES.due("the next that would wait", p.insert(9), 1);
        looks(p, "built", 4, 4, 0, 0, 1, 4);
        GuessedPlace raised = Edges.withKeys(1, 2);
        raised.set(2, 2);
        looks(raised, "as many as room", 2, 0, 2);
        raised.set(2, 3);
        raised.insert(3);
        looks(raised, "as many as room again", 3, 0, 3);
        raised.insert(4);
        looks(raised, "one more", 4, 4, 0);
    }

    private static void waits() {
        EDGES.sentence("Promise 7", "(one that is not BUILT, or new, waits in the BUFFER): its COUNT");
        GuessedPlace p = Edges.with("key 1;");
        EDGES.due("a new one", p.insert(2), 1);
        EDGES.due("one that is not built", p.insert(2), 2);
        looks(p, "one waits", 2, 1, 1, 0);
        EDGES.due("a built one", p.insert(1), 2);
        looks(p, "one waits", 2, 1, 1, 0);
        p.remove(1);
        p.remove(1);
        EDGES.due("a gone one", p.insert(1), 1);
        looks(p, "one waits", 2, 1, 1, 0);
        p.remove(1);
        p.build();
        EDGES.due("a gone one that left the row is new", p.insert(1), 1);
        looks(p, "one waits", 2, 1, 1, 0);
    }

    private static void insertRefused() {
        EDGES.sentence("Promise 7", "NONE if it can't be (300 KEYS, 99).");
        GuessedPlace p = Edges.full();
        p.insert(1);
        p.undo(true);
        EDGES.due("a 301st", p.insert(0), -1);
        EDGES.due("no number of a key", p.insert(1000000000), -1);
        looks(p, "nothing is done", 300, 300, 0, 0, 1, 300, 0, 1);
        p.remove(7);
        p.insert(0);
        EDGES.due("a gone one would be the 301st", p.insert(7), -1);
        looks(p, "nothing is done", 300, 300, 1, 1, 1, 300, 2, 0);
        GuessedPlace most = Edges.with("key 1 99;key 2;");
        most.remove(2);
        most.undo(true);
        EDGES.due("a 100th", most.insert(1), -1);
        EDGES.due("is not there", most.count(1), 99);
        looks(most, "nothing is done", 2, 2, 0, 0, 1, 2, 0, 1);
    }

    private static void removeTo0() {
        EDGES.sentence("Promise 8", "(0: it leaves the BUFFER, or is GONE in the ROW): its COUNT");
        GuessedPlace p = Edges.with("key 1 2;key 2;");
        p.insert(3);
        p.insert(3);
        EDGES.due("of the buffer, 1 is left", p.remove(3), 1);
        looks(p, "it waits", 3, 2, 1, 0);
        EDGES.due("of the buffer, none is left", p.remove(3), 0);
        looks(p, "it left", 2, 2, 0, 0);
        EDGES.due("of the row, 1 is left", p.remove(1), 1);
        looks(p, "none is gone", 2, 2, 0, 0);
        EDGES.due("of the row, none is left", p.remove(1), 0);
        looks(p, "one is gone", 1, 2, 0, 1);
    }

    private static void removeRefused() {
        EDGES.sentence("Promise 8", "NONE if it is none.");
        GuessedPlace p = Edges.with("key 1;key 3;");
        p.insert(2);
        p.insert(2);
        p.remove(1);
        p.undo(true);
        for (int x : new int[] {0, 4, -1000000000, 1000000000, Edges.LEAST_INT, Edges.MOST_INT, Check.NOTHING}) {
            EDGES.due("remove " + x, p.remove(x), -1);
        }
        looks(p, "nothing is done", 3, 2, 1, 0, 1, 2, 2, 1);
        p.remove(1);
        EDGES.due("a gone one", p.remove(1), -1);
        EDGES.due("of no keys", new GuessedPlace().remove(0), -1);
    }

    private static void lastTwenty() {
        EDGES.sentence("Term 4", "ACTS are insert(), remove(): the last 20 can be undone");
        GuessedPlace p = new GuessedPlace();
        p.set(2, 50);
        // 22 acts: 18 come, of which 1 and 2 go again, then 19 and 20 come.
        int[] keys = {1, 2, 3, 4, 5, 6, 7, 8, 9, 10, 11, 12, 13, 14, 15, 16, 17, 18, 1, 2, 19, 20};
        for (int i = 0; i < keys.length; i++) {
            EDGES.due("act " + i, i == 18 || i == 19 ? p.remove(keys[i]) : p.insert(keys[i]), i == 18 || i == 19 ? 0 : 1);
            EDGES.due("acts", p.look(6), Math.min(20, i + 1));
        }
        for (int i = keys.length - 1; i >= 2; i--) {
            EDGES.due("undo " + i, p.undo(true), keys[i]);
            EDGES.due("its count then", p.count(keys[i]), i == 18 || i == 19 ? 1 : 0);
        }
        EDGES.due("the 21st", p.undo(true), Check.NOTHING);
        looks(p, "two stay", 2, 0, 2, 0, 0, 0, 0, 20);
        for (int i = 2; i < keys.length; i++) {
            EDGES.due("redo " + i, p.undo(false), keys[i]);
            EDGES.due("its count then", p.count(keys[i]), i == 18 || i == 19 ? 0 : 1);
        }
        EDGES.due("no 21st to redo", p.undo(false), Check.NOTHING);
        looks(p, "all redone", 18, 0, 18, 0, 0, 0, 20, 0);
        p.put(5);
        p.lay();
        p.point(1, 1);
        p.box(1, 1, 1, 1);
        p.set(2, 40);
        EDGES.due("other calls are no acts", p.look(6), 20);
    }

    private static void redoneTill() {
        EDGES.sentence("Term 4", "and redone till another one is done");
        GuessedPlace p = Edges.withKeys(1, 2, 3);
        p.undo(true);
        p.undo(true);
        EDGES.due("two to redo", p.look(7), 2);
        EDGES.due("refused", p.insert(1000000000), -1);
        EDGES.due("refused", p.remove(2), -1);
        EDGES.due("what is refused is not done", p.look(7), 2);
        EDGES.due("the first of them", p.undo(false), 2);
        EDGES.due("another one", p.insert(2), 2);
        looks(p, "none to redo", 2, 0, 2, 0, 0, 0, 3, 0);
        EDGES.due("none", p.undo(false), Check.NOTHING);
        p.undo(true);
        EDGES.due("a remove is one, too", p.remove(1), 0);
        EDGES.due("none", p.undo(false), Check.NOTHING);
        EDGES.due("back over it", p.undo(true), 1);
        EDGES.due("and on", p.undo(true), 2);
        EDGES.due("2 was the second act", p.look(6), 1);
    }

    private static void forgotten() {
        EDGES.sentence("Term 4", "a TEXT, build() and set() 0, 1 forget them.");
        for (int how = 0; how < 12; how++) {
            GuessedPlace p = Edges.withKeys(1, 2, 3);
            p.undo(true);
            if (how < 8) {
                p.set(how, how == 6 ? 4 : 8);
            } else if (how == 8) {
                p.build();
            } else if (how == 9) {
                p.text();
            } else {
                Check.tell(p, how == 10 ? "x" : "key 9;");
            }
            boolean isForgotten = how < 2 || how == 8 || how == 9 || how == 11;
            EDGES.due("to undo behind " + how, p.look(6), isForgotten ? 0 : 2);
            EDGES.due("to redo behind " + how, p.look(7), isForgotten ? 0 : 1);
            EDGES.due("redo behind " + how, p.undo(false), isForgotten ? Check.NOTHING : 3);
        }
        GuessedPlace byRoom = new GuessedPlace();
        byRoom.set(2, 0);
        byRoom.insert(1);
        EDGES.due("building by itself forgets nothing", byRoom.look(6), 1);
        byRoom.set(0, 21);
        EDGES.due("nor does a refused slack", byRoom.look(6), 1);
    }

    private static void countsAheadAndBehind() {
        EDGES.sentence("Promise 9", "COUNTS as they were ahead of it, behind it");
        GuessedPlace p = Edges.with("key 1 98;key 2;");
        p.insert(1);
        p.remove(2);
        p.insert(3);
        EDGES.due("3 is no key again", p.undo(true), 3);
        EDGES.due("count", p.count(3), 0);
        EDGES.due("2 is one again", p.undo(true), 2);
        EDGES.due("count", p.count(2), 1);
        EDGES.due("1 has 98 again", p.undo(true), 1);
        EDGES.due("count", p.count(1), 98);
        p.undo(false);
        EDGES.due("99 redone", p.count(1), 99);
        p.undo(false);
        EDGES.due("0 redone", p.count(2), 0);
        p.undo(false);
        EDGES.due("1 redone", p.count(3), 1);
        GuessedPlace full = Edges.full();
        full.remove(5);
        full.insert(0);
        full.undo(true);
        full.undo(true);
        EDGES.due("300 again", full.look(0), 300);
        full.undo(false);
        full.undo(false);
        EDGES.due("and the other 300", full.key(0), 0);
    }

    private static void nothingBuiltAgain() {
        EDGES.sentence("Promise 9", "nothing BUILT again by that (a KEY whose COUNT comes to be above 0 again, and that is"
            + " not in the ROW, waits in the BUFFER, whatever ROOM)");
        GuessedPlace p = Edges.with("run 1 3 1;room 0;");
        p.remove(1);
        p.remove(2);
        p.insert(9);
        looks(p, "built by the insert", 2, 2, 0, 0, 1, 5);
        p.undo(true);
        looks(p, "9 is gone", 1, 2, 0, 1, 1, 5);
        p.undo(true);
        p.undo(true);
        looks(p, "1 and 2 wait, whatever room", 3, 2, 2, 1, 1, 5);
        p.undo(false);
        looks(p, "1 leaves the buffer", 2, 2, 1, 1, 1, 5);
        p.undo(false);
        p.undo(false);
        looks(p, "9 is back in the row", 2, 2, 0, 0, 1, 5);
        GuessedPlace waits = new GuessedPlace();
        waits.set(2, 1);
        waits.insert(1);
        waits.undo(true);
        waits.set(2, 0);
        waits.undo(false);
        looks(waits, "redone, it waits, whatever room", 1, 0, 1, 0, 0, 0);
    }

    private static void noAct() {
        EDGES.sentence("Promise 9", "the KEY; NONE - 1000000000 if there is none.");
        GuessedPlace p = new GuessedPlace();
        EDGES.due("none to undo", p.undo(true), -1000000001);
        EDGES.due("none to redo", p.undo(false), -1000000001);
        p.insert(-1);
        EDGES.due("none to redo", p.undo(false), -1000000001);
        EDGES.due("the key -1", p.undo(true), -1);
        EDGES.due("none more", p.undo(true), -1000000001);
        looks(p, "one to redo", 0, 0, 0, 0, 0, 0, 0, 1);
        EDGES.due("redone", p.undo(false), -1);
        looks(p, "one to undo", 1, 0, 1, 0, 0, 0, 1, 0);
    }

    private static void buildCosts() {
        EDGES.sentence("Promise 10", "BUILD: what BUILDING cost.");
        GuessedPlace p = Edges.with("key 1 9;");
        EDGES.due("this one's cost alone", p.build(), 1);
        p.remove(1);
        EDGES.due("a count is no key", p.build(), 1);
        p.insert(2);
        EDGES.due("with one that waited", p.build(), 2);
        Check.tell(p, "drop 1;drop 2;");
        EDGES.due("none", p.build(), 0);
        EDGES.due("all costs", p.look(5), 5);
    }

    private static void countOfNone() {
        EDGES.sentence("Promise 11", "COUNT of x: 0 if it is no KEY.");
        GuessedPlace p = Edges.with("key 1 99;key 3;key 999999999 2;key -999999999 4;");
        p.insert(5);
        p.remove(3);
        int[] xs = {1, 999999999, -999999999, 5, 3, 0, 2, 4, -1000000000, 1000000000, Edges.LEAST_INT, Edges.MOST_INT};
        int[] want = {99, 2, 4, 1, 0, 0, 0, 0, 0, 0, 0, 0};
        for (int i = 0; i < xs.length; i++) {
            EDGES.due("count " + xs[i], p.count(xs[i]), want[i]);
        }
    }

    private static void keyOfNone() {
        EDGES.sentence("Promise 12", "(by ROW and BUFFER together, the least is the 0th); NONE - 1000000000 if there is"
            + " none.");
        GuessedPlace p = Edges.with("key -1;key 7;");
        p.insert(3);
        EDGES.due("the 0th", p.key(0), -1);
        EDGES.due("of the buffer", p.key(1), 3);
        EDGES.due("the last", p.key(2), 7);
        for (int i : new int[] {-1, 3, 300, Edges.LEAST_INT, Edges.MOST_INT}) {
            EDGES.due("key " + i, p.key(i), -1000000001);
        }
        GuessedPlace full = Edges.full();
        EDGES.due("the 299th", full.key(299), 303);
        EDGES.due("the 300th", full.key(300), -1000000001);
        full.remove(303);
        EDGES.due("the 299th is gone", full.key(299), -1000000001);
    }

    private static void ranks() {
        EDGES.sentence("Term 4", "RANK of x (how many KEYS are less).");
        GuessedPlace p = Edges.with("key -999999999;key 5 9;key 999999999;");
        p.insert(6);
        int[] xs = {Edges.LEAST_INT, -999999999, -999999998, 5, 6, 7, 999999999, 1000000000, Edges.MOST_INT};
        int[] want = {0, 0, 1, 1, 2, 3, 3, 4, 4};
        for (int i = 0; i < xs.length; i++) {
            EDGES.due("rank " + xs[i], p.rank(xs[i]), want[i]);
        }
        EDGES.sentence("Promise 13", "RANK of x.");
        EDGES.due("of 300", Edges.full().rank(1000), 300);
        EDGES.due("of none", new GuessedPlace().rank(0), 0);
        p.remove(6);
        EDGES.due("one left the buffer", p.rank(7), 2);
        p.remove(-999999999);
        EDGES.due("one is gone", p.rank(7), 1);
    }

    private static void ranges() {
        EDGES.sentence("Term 4", "RANGE a to b: how many KEYS, COUNTS added, KEYS times COUNTS added, of ROW and BUFFER"
            + " together.");
        GuessedPlace p = Edges.with("key 10 2;key 20 3;key 30 4;key -999999999 99;");
        p.insert(25);
        long[][] want = {{10, 30, 4, 10, 225}, {11, 29, 2, 4, 85}, {20, 20, 1, 3, 60}, {21, 24, 0, 0, 0},
            {25, 25, 1, 1, 25}, {9, 10, 1, 2, 20}, {30, 31, 1, 4, 120},
            {Edges.LEAST_INT, -999999999, 1, 99, -98999999901L}, {31, Edges.MOST_INT, 0, 0, 0}};
        for (long[] row : want) {
            for (int what = 0; what < 3; what++) {
                EDGES.due(row[0] + " to " + row[1] + " what " + what, p.range((int) row[0], (int) row[1], what),
                    row[2 + what]);
            }
        }
        GuessedPlace most = Edges.with("run 999999901 99 1;");
        for (int i = 0; i < 58; i++) {
            most.insert(999999999);
        }
        EDGES.due("99 keys", most.range(999999901, 999999999, 0), 99);
        EDGES.due("with their counts", most.range(999999901, 999999999, 1), 157);
        EDGES.due("far more than an int", most.range(999999901, 999999999, 2), 99L * 999999950 + 58L * 999999999);
    }

    private static void rangeTurned() {
        EDGES.sentence("Promise 14", "(0 for b below a)");
        GuessedPlace p = Edges.with("run 1 9 1;");
        for (int what = 0; what < 3; what++) {
            EDGES.due("b one below a", p.range(5, 4, what), 0);
            EDGES.due("b far below a", p.range(9, 1, what), 0);
            EDGES.due("all turned", p.range(Edges.MOST_INT, Edges.LEAST_INT, what), 0);
            EDGES.due("b is a", p.range(5, 5, what), what == 2 ? 5 : 1);
        }
    }

    private static void otherRange() {
        EDGES.sentence("Promise 14", "NONE for another what.");
        GuessedPlace p = Edges.with("run 1 9 1;");
        for (int what : new int[] {-1, 3, Edges.LEAST_INT, Edges.MOST_INT}) {
            EDGES.due("what " + what, p.range(1, 9, what), -1);
            EDGES.due("turned, what " + what, p.range(9, 1, what), -1);
            EDGES.due("without keys, what " + what, new GuessedPlace().range(1, 9, what), -1);
        }
    }
}
