/** Promises 7 to 10: insert, remove, undo, build. */
public final class ActsTest {
    private static final Check CHECK = new Check("ActsTest");

    public static void main(String[] args) {
        insert();
        full();
        remove();
        undo();
        twentyActs();
        undoAndTheRow();
        build();
        CHECK.finish();
    }

    private static void insert() {
        GuessedPlace p = new GuessedPlace();
        for (int i = 0; i < 4; i++) {
            CHECK.due("insert", p.insert(100 - i), 1);
        }
        CHECK.due("four wait", p.look(2), 4);
        CHECK.due("one more of a waiting one", p.insert(99), 2);
        CHECK.due("none is built", p.look(1), 0);
        CHECK.due("the fifth", p.insert(5), 1);
        CHECK.due("all are built", p.look(1), 5);
        CHECK.due("cost with the fifth", p.look(5), 5);
        CHECK.due("acts are kept", p.look(6), 6);
        CHECK.due("a built one", p.insert(5), 2);
        CHECK.due("does not wait", p.look(2), 0);
        CHECK.due("too great", p.insert(1000000000), -1);
        CHECK.due("too small", p.insert(-1000000000), -1);
        CHECK.due("far too small", p.insert(Integer.MIN_VALUE), -1);
        CHECK.due("greatest", p.insert(999999999), 1);
        CHECK.due("least", p.insert(-999999999), 1);
        CHECK.due("no acts but what was done", p.look(6), 9);
        for (int c = 3; c <= 99; c++) {
            CHECK.due("count", p.insert(5), c);
        }
        CHECK.due("99 at most", p.insert(5), -1);
        CHECK.due("still 99", p.count(5), 99);
    }

    private static void full() {
        GuessedPlace p = new GuessedPlace();
        Check.tell(p, "run 1 99 1;run 101 99 1;run 201 99 1;run 301 3 1;");
        CHECK.due("300 keys", p.look(0), 300);
        CHECK.due("no 301st", p.insert(1000), -1);
        CHECK.due("one more of one", p.insert(303), 2);
        CHECK.due("one goes", p.remove(50), 0);
        CHECK.due("another comes", p.insert(1000), 1);
        CHECK.due("a gone one can't", p.insert(50), -1);
        CHECK.due("300 in the row", p.look(1), 300);
        CHECK.due("one waits", p.look(2), 1);
        CHECK.due("one is gone", p.look(3), 1);
        CHECK.due("build", p.build(), 300);
        CHECK.due("none is gone", p.look(3), 0);
    }

    private static void remove() {
        GuessedPlace p = new GuessedPlace();
        Check.tell(p, "key 5 2;key 7;");
        CHECK.due("none", p.remove(6), -1);
        CHECK.due("no such number", p.remove(Integer.MAX_VALUE), -1);
        CHECK.due("one less", p.remove(5), 1);
        CHECK.due("none is gone", p.look(3), 0);
        CHECK.due("the last", p.remove(5), 0);
        CHECK.due("gone", p.look(3), 1);
        CHECK.due("stands in the row", p.look(1), 2);
        CHECK.due("no key", p.look(0), 1);
        CHECK.due("gone is none", p.remove(5), -1);
        CHECK.due("back in the row", p.insert(5), 1);
        CHECK.due("not in the buffer", p.look(2), 0);
        CHECK.due("not gone", p.look(3), 0);
        p.insert(6);
        p.insert(6);
        CHECK.due("of the buffer", p.remove(6), 1);
        CHECK.due("it waits", p.look(2), 1);
        CHECK.due("leaves the buffer", p.remove(6), 0);
        CHECK.due("none waits", p.look(2), 0);
        CHECK.due("none is gone by that", p.look(3), 0);
        CHECK.due("acts", p.look(6), 7);
    }

    private static void undo() {
        GuessedPlace p = new GuessedPlace();
        p.insert(1);
        p.insert(2);
        p.insert(1);
        p.remove(2);
        CHECK.due("the latest", p.undo(true), 2);
        CHECK.due("is back", p.count(2), 1);
        CHECK.due("the next", p.undo(true), 1);
        CHECK.due("one less", p.count(1), 1);
        CHECK.due("redone", p.undo(false), 1);
        CHECK.due("one more", p.count(1), 2);
        CHECK.due("redone", p.undo(false), 2);
        CHECK.due("is gone again", p.count(2), 0);
        CHECK.due("none more", p.undo(false), Check.NOTHING);
        p.undo(true);
        p.undo(true);
        CHECK.due("two to redo", p.look(7), 2);
        CHECK.due("what can't be is no act", p.insert(1000000000), -1);
        CHECK.due("what can't be is no act", p.remove(77), -1);
        CHECK.due("still two", p.look(7), 2);
        CHECK.due("another act", p.insert(9), 1);
        CHECK.due("none to redo", p.look(7), 0);
        CHECK.due("redo", p.undo(false), Check.NOTHING);
        CHECK.due("three to undo", p.look(6), 3);
        CHECK.due("9", p.undo(true), 9);
        CHECK.due("2", p.undo(true), 2);
        CHECK.due("1", p.undo(true), 1);
        CHECK.due("no more", p.undo(true), Check.NOTHING);
        CHECK.due("no keys", p.look(0), 0);
        CHECK.due("three to redo", p.look(7), 3);
    }

    private static void twentyActs() {
        GuessedPlace p = new GuessedPlace();
        p.set(2, 50);
        for (int i = 0; i < 25; i++) {
            p.insert(i);
        }
        CHECK.due("twenty acts", p.look(6), 20);
        for (int i = 24; i >= 5; i--) {
            CHECK.due("undo " + i, p.undo(true), i);
        }
        CHECK.due("no more", p.undo(true), Check.NOTHING);
        CHECK.due("five stay", p.look(0), 5);
        for (int i = 5; i < 25; i++) {
            CHECK.due("redo " + i, p.undo(false), i);
        }
        CHECK.due("all are back", p.look(0), 25);
        CHECK.due("twenty again", p.look(6), 20);
        mixedActs();
    }

    private static void mixedActs() {
        GuessedPlace p = new GuessedPlace();
        Check.tell(p, "key 0 50;");
        // In, in, out, over and over: 30 acts, of which the last 20 are undone.
        int count = 50;
        int[] counts = new int[31];
        for (int i = 0; i < 30; i++) {
            counts[i] = count;
            count += i % 3 == 2 ? -1 : 1;
            CHECK.due("act " + i, i % 3 == 2 ? p.remove(0) : p.insert(0), count);
        }
        for (int i = 29; i >= 10; i--) {
            CHECK.due("undo " + i, p.undo(true), 0);
            CHECK.due("count ahead of " + i, p.count(0), counts[i]);
        }
        CHECK.due("no more", p.undo(true), Check.NOTHING);
    }

    private static void undoAndTheRow() {
        GuessedPlace p = new GuessedPlace();
        p.set(2, 1);
        Check.tell(p, "run 0 3 10;");
        p.remove(10);
        p.insert(5);
        p.insert(6);
        CHECK.due("built by the second", p.look(1), 4);
        CHECK.due("no gone one stands there", p.look(3), 0);
        CHECK.due("undone", p.undo(true), 6);
        CHECK.due("gone, not unbuilt", p.look(3), 1);
        CHECK.due("undone", p.undo(true), 5);
        CHECK.due("two gone", p.look(3), 2);
        CHECK.due("undone remove", p.undo(true), 10);
        CHECK.due("waits, for it is not in the row", p.look(2), 1);
        p.undo(false);
        p.undo(false);
        p.undo(false);
        CHECK.due("cost as it was", p.look(5), 7);
        CHECK.due("all redone", p.look(0), 4);
        p.undo(true);
        p.undo(true);
        p.undo(true);
        p.set(2, 0);
        p.insert(-5);
        CHECK.due("10 and -5 are built", p.look(1), 4);
        CHECK.due("one act", p.look(6), 1);
        whateverRoom();
    }

    private static void whateverRoom() {
        GuessedPlace p = new GuessedPlace();
        Check.tell(p, "run 0 5 10;room 2;");
        p.remove(0);
        p.remove(10);
        p.remove(20);
        p.remove(30);
        p.insert(1);
        p.insert(2);
        p.insert(3);
        CHECK.due("built", p.look(1), 4);
        for (int i = 0; i < 7; i++) {
            p.undo(true);
        }
        CHECK.due("four wait, whatever room", p.look(2), 4);
        CHECK.due("three are gone", p.look(3), 3);
        CHECK.due("five keys", p.look(0), 5);
        CHECK.due("cost of text and insert", p.look(5), 9);
        CHECK.due("the next builds", p.insert(4), 1);
        CHECK.due("six stand", p.look(1), 6);
    }

    private static void build() {
        GuessedPlace p = new GuessedPlace();
        CHECK.due("none", p.build(), 0);
        p.insert(3);
        p.insert(1);
        CHECK.due("two", p.build(), 2);
        CHECK.due("in the row", p.look(1), 2);
        CHECK.due("none waits", p.look(2), 0);
        CHECK.due("acts are forgotten", p.look(6), 0);
        p.remove(3);
        p.undo(true);
        CHECK.due("one undone", p.look(7), 1);
        p.remove(3);
        CHECK.due("one", p.build(), 1);
        CHECK.due("undone ones are forgotten", p.look(7), 0);
        CHECK.due("all cost", p.look(5), 3);
        CHECK.due("the row is new", p.piece(0, 0, 4), 1);
        CHECK.due("gone ones left", p.look(3), 0);
    }
}
