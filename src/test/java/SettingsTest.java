/** Promises 1, 6 and 32: a new object, set, look. */
public final class SettingsTest {
    private static final Check CHECK = new Check("SettingsTest");
    private static final int[] LEAST = {0, 0, 0, 1, 2, 8, 1, 0};
    private static final int[] MOST = {20, 20, 50, 99, 99, 512, 4, 99999};
    private static final int[] FIRST = {1, 1, 4, 8, 8, 64, 2, 0};

    public static void main(String[] args) {
        newObject();
        bounds();
        setBuilds();
        room();
        look();
        CHECK.finish();
    }

    private static void newObject() {
        GuessedPlace p = new GuessedPlace();
        CHECK.due("NONE", GuessedPlace.NONE, -1);
        for (int what = 0; what < 10; what++) {
            CHECK.due("look " + what, p.look(what), 0);
        }
        for (int what = 0; what < 8; what++) {
            CHECK.due("look " + (20 + what), p.look(20 + what), FIRST[what]);
        }
        CHECK.due("fault(0)", p.fault(0), 0);
        CHECK.due("fault(1)", p.fault(1), -1);
        CHECK.due("key(0)", p.key(0), Check.NOTHING);
        CHECK.due("count(0)", p.count(0), 0);
        CHECK.due("rank", p.rank(Integer.MAX_VALUE), 0);
        CHECK.due("undo", p.undo(true), Check.NOTHING);
        CHECK.due("redo", p.undo(false), Check.NOTHING);
        CHECK.due("build", p.build(), 0);
        CHECK.due("image", p.image(false), false);
        CHECK.due("pages(0)", p.pages(0), 0);
        CHECK.due("errors", p.errors(0, 0), -1);
        CHECK.due("guess", p.guess(0, 0, 0), -1);
        CHECK.due("bestOrder", p.bestOrder(), 0);
        CHECK.due("a level without a row", p.look(10), -1);
    }

    private static void bounds() {
        GuessedPlace p = new GuessedPlace();
        for (int what = 0; what < 8; what++) {
            CHECK.due("least of " + what, p.set(what, LEAST[what]), true);
            CHECK.due("is told", p.look(20 + what), LEAST[what]);
            CHECK.due("most of " + what, p.set(what, MOST[what]), true);
            CHECK.due("less of " + what, p.set(what, LEAST[what] - 1), false);
            CHECK.due("more of " + what, p.set(what, MOST[what] + 1), false);
            CHECK.due("far less of " + what, p.set(what, Integer.MIN_VALUE), false);
            CHECK.due("far more of " + what, p.set(what, Integer.MAX_VALUE), false);
            CHECK.due("as it was", p.look(20 + what), MOST[what]);
        }
        CHECK.due("set 8", p.set(8, 1), false);
        CHECK.due("set -1", p.set(-1, 1), false);
    }

    private static void setBuilds() {
        GuessedPlace p = new GuessedPlace();
        p.insert(5);
        p.insert(9);
        CHECK.due("two wait", p.look(2), 2);
        p.set(0, 21);
        CHECK.due("a wrong slack builds nothing", p.look(2), 2);
        CHECK.due("and forgets nothing", p.look(6), 2);
        for (int what = 2; what < 8; what++) {
            p.set(what, FIRST[what]);
        }
        CHECK.due("others build nothing", p.look(2), 2);
        CHECK.due("others forget nothing", p.look(6), 2);
        p.set(0, 1);
        CHECK.due("the same slack builds", p.look(1), 2);
        CHECK.due("costs", p.look(5), 2);
        CHECK.due("forgets", p.look(6), 0);
        p.insert(7);
        p.undo(true);
        CHECK.due("one to redo", p.look(7), 1);
        p.set(1, 0);
        CHECK.due("upper costs", p.look(5), 4);
        CHECK.due("forgets undone ones", p.look(7), 0);
    }

    private static void room() {
        GuessedPlace p = new GuessedPlace();
        for (int i = 0; i < 4; i++) {
            p.insert(10 * i);
        }
        CHECK.due("four wait", p.look(2), 4);
        p.set(2, 2);
        CHECK.due("the buffer has more than room", p.look(2), 4);
        CHECK.due("one that waits gets one more", p.insert(10), 2);
        CHECK.due("still they wait", p.look(2), 4);
        CHECK.due("the next that would wait", p.insert(15), 1);
        CHECK.due("builds all", p.look(1), 5);
        CHECK.due("none waits", p.look(2), 0);
        CHECK.due("cost", p.look(5), 5);
        p.set(2, 0);
        p.insert(16);
        CHECK.due("room 0 builds at once", p.look(1), 6);
        CHECK.due("cost again", p.look(5), 11);
        p.insert(16);
        CHECK.due("a built one builds nothing", p.look(5), 11);
    }

    private static void look() {
        GuessedPlace p = new GuessedPlace();
        p.set(0, 0);
        p.set(1, 0);
        Check.tell(p, "key 0;key 1;key 10;key 11;key 30;key 31;key 60;key 61;");
        p.remove(11);
        p.insert(12);
        p.insert(13);
        p.undo(true);
        p.point(1, 1);
        p.point(1, 1);
        p.box(0, 0, 1, 1);
        int[] want = {8, 8, 1, 1, 3, 8, 2, 1, 2, 1, 4, 2, 1, -1, -1, -1, -1, -1, -1, -1, 0, 0, 4, 8, 8, 64, 2, 0, -1, -1};
        for (int what = 0; what < want.length; what++) {
            CHECK.due("look " + what, p.look(what), want[what]);
        }
        CHECK.due("look -1", p.look(-1), -1);
        CHECK.due("look far below", p.look(Integer.MIN_VALUE), -1);
        CHECK.due("look far above", p.look(Integer.MAX_VALUE), -1);
    }
}
