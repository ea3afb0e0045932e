/** Promise 31: image. */
public final class ImageTest {
    private static final Check CHECK = new Check("ImageTest");

    public static void main(String[] args) {
        GuessedPlace p = new GuessedPlace();
        CHECK.due("none yet", p.image(false), false);
        fill(p);
        CHECK.due("taken", p.image(true), true);
        long[] then = all(p);
        for (int i = 0; i < 2; i++) {
            spoil(p, i);
            CHECK.due("all is otherwise", same(then, all(p)), false);
            CHECK.due("gone back", p.image(false), true);
            long[] now = all(p);
            for (int k = 0; k < then.length; k++) {
                CHECK.due("answer " + k + " after going back", now[k], then[k]);
            }
        }
        CHECK.due("undo goes on from it", p.undo(true), 33);
        CHECK.due("undo goes on", p.undo(false), 33);
        CHECK.due("a new image", p.image(true), true);
        p.insert(77);
        p.image(false);
        CHECK.due("the new one counts", p.count(77), 0);
        tapeAndFaultStay();
        CHECK.finish();
    }

    private static void fill(GuessedPlace p) {
        Check.tell(p, "slack 0;upper 0;run 0 5 10;run 7 6 13;key 500 9;");
        p.lay();
        p.put(55);
        p.remove(10);
        p.insert(31);
        p.insert(33);
        p.insert(35);
        p.undo(true);
        p.set(2, 9);
        p.set(3, 2);
        p.set(4, 3);
        p.set(5, 99);
        p.set(6, 3);
        p.set(7, 4);
        p.point(3, 4);
        p.point(30, 4);
        p.box(0, 0, 5, 5);
    }

    private static void spoil(GuessedPlace p, int how) {
        if (how == 0) {
            p.set(0, 5);
            p.set(1, 5);
        }
        Check.tell(p, "drop 500;run 1000 50 7;room 1;");
        for (int what = 2; what < 8; what++) {
            p.set(what, 8 + how);
        }
        p.insert(1);
        p.insert(2);
        p.insert(3);
        p.undo(true);
        p.lay();
        p.put(9);
        p.point(1, 1);
        p.box(1, 1, 1, 1);
        p.build();
    }

    private static long[] all(GuessedPlace p) {
        long[] all = new long[700];
        int n = 0;
        for (int what = 0; what < 30; what++) {
            all[n++] = p.look(what);
        }
        for (int i = 0; i < 80; i++) {
            all[n++] = p.key(i);
            all[n++] = p.count(i);
            all[n++] = p.seek(7 * i, 0);
            all[n++] = p.seek(7 * i, 1);
            all[n++] = p.cell(i);
            all[n++] = p.passes(i, true) ? 1 : 0;
            all[n++] = p.piece(i / 20, i % 20 / 5, i % 5);
            all[n++] = p.guess(i / 20, i % 20, 10 * i);
        }
        for (int what = 0; what < 3; what++) {
            all[n++] = p.range(-9, 9999, what);
            all[n++] = p.errors(0, what);
            all[n++] = p.boxed(0, what);
            all[n++] = p.pages(what);
        }
        all[n++] = p.poison(0);
        all[n++] = p.bestSlack(1);
        all[n++] = p.bestOrder();
        return all;
    }

    private static boolean same(long[] a, long[] b) {
        for (int i = 0; i < a.length; i++) {
            if (a[i] != b[i]) {
                return false;
            }
        }
        return true;
    }

    private static void tapeAndFaultStay() {
        GuessedPlace p = new GuessedPlace();
        p.image(true);
        Check.tell(p, "key 5;x");
        Check.feed(p, "key 7;");
        p.image(false);
        CHECK.due("the fault stays", p.fault(0), 1);
        CHECK.due("its place stays", p.fault(1), 6);
        CHECK.due("the tape stays", p.text(), 1);
        CHECK.due("7 is told", p.count(7), 1);
        p.image(false);
        CHECK.due("no keys then", p.look(0), 0);
        CHECK.due("no fault is kept", p.fault(0), 0);
    }
}
