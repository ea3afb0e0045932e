/** Promises 27 to 30: point, box, boxed, bestOrder. */
public final class PlaneTest {
    private static final Check CHECK = new Check("PlaneTest");

    public static void main(String[] args) {
        limits();
        orders();
        onePlaceAlone();
        bestOrder();
        CHECK.finish();
    }

    private static void limits() {
        GuessedPlace p = new GuessedPlace();
        int[][] wrong = {{-1, 0}, {0, -1}, {32, 0}, {0, 32}, {Integer.MIN_VALUE, 0}, {0, Integer.MAX_VALUE}};
        for (int[] w : wrong) {
            CHECK.due("point " + w[0] + " " + w[1], p.point(w[0], w[1]), -1);
            CHECK.due("box from there", p.box(w[0], w[1], 31, 31), -1);
            CHECK.due("box to there", p.box(0, 0, w[0], w[1]), -1);
        }
        for (int i = 0; i < 100; i++) {
            CHECK.due("point " + i, p.point(i % 2 * 31, 31), i);
        }
        CHECK.due("the 101st", p.point(0, 0), -1);
        CHECK.due("x0 above x1", p.box(5, 0, 4, 0), -1);
        CHECK.due("y0 above y1", p.box(0, 5, 0, 4), -1);
        for (int i = 0; i < 8; i++) {
            CHECK.due("box " + i, p.box(0, 0, 31, 31), i);
        }
        CHECK.due("the ninth", p.box(0, 0, 0, 0), -1);
        CHECK.due("points", p.look(8), 100);
        CHECK.due("boxes", p.look(9), 8);
        for (int what = 0; what < 4; what++) {
            CHECK.due("points alike count each, what " + what, p.boxed(7, what), 100);
        }
        CHECK.due("all alike", p.bestOrder(), 0);
        CHECK.due("box 8", p.boxed(8, 0), -1);
        CHECK.due("box -1", p.boxed(-1, 0), -1);
        CHECK.due("what 4", p.boxed(0, 4), -1);
        CHECK.due("what -1", p.boxed(0, -1), -1);
    }

    /** A point at every place of a corner, so that what is read tells the order's numbers. */
    private static void orders() {
        GuessedPlace p = new GuessedPlace();
        for (int y = 0; y < 8; y++) {
            for (int x = 0; x < 8; x++) {
                p.point(x, y);
            }
        }
        p.box(2, 1, 3, 2);
        CHECK.due("in it", p.boxed(0, 0), 4);
        // Rows: from 34 to 67: of row 1 x 2 .. 7, of row 2 x 0 .. 3.
        CHECK.due("by rows", p.boxed(0, 1), 6 + 4);
        // Bits: (2, 1) is 6, (3, 2) is 13: eight numbers, all of them places below 4.
        CHECK.due("by bits", p.boxed(0, 2), 8);
        // Snake: row 1 goes down from x = 31: (3, 1) is 60, (2, 2) is 66, (3, 2) 67: x 0 .. 3 of row 1 and of row 2.
        CHECK.due("by a snake", p.boxed(0, 3), 4 + 4);
        p.box(2, 2, 3, 3);
        CHECK.due("by rows", p.boxed(1, 1), 6 + 4);
        CHECK.due("by bits: 12 to 15", p.boxed(1, 2), 4);
        // Snake: from (2, 2), 66, to (2, 3), 125: x 2 .. 7 of row 2 and of row 3.
        CHECK.due("by a snake", p.boxed(1, 3), 6 + 6);
        p.box(5, 4, 5, 4);
        for (int what = 0; what < 4; what++) {
            CHECK.due("one place, what " + what, p.boxed(2, what), 1);
        }
        p.box(0, 5, 0, 6);
        // Snake: (0, 5) is 191, (0, 6) is 192.
        CHECK.due("a turn of the snake", p.boxed(3, 3), 2);
        CHECK.due("by rows", p.boxed(3, 1), 8 + 1);
        // Bits: (0, 5) is 34, (0, 6) is 40: 34 .. 40 are (0 .. 1, 5), all of (2 .. 3, 4 .. 5), (0, 6).
        CHECK.due("by bits", p.boxed(3, 2), 7);
        GuessedPlace q = new GuessedPlace();
        q.point(31, 31);
        q.point(16, 16);
        q.box(16, 16, 31, 31);
        CHECK.due("high bits", q.boxed(0, 2), 2);
    }

    /** By every order no two places have one number: a box of one place reads no other. */
    private static void onePlaceAlone() {
        int[][] places = {{0, 0}, {1, 0}, {31, 0}, {31, 1}, {0, 1}, {0, 2}, {31, 30}, {31, 31}};
        GuessedPlace p = new GuessedPlace();
        GuessedPlace none = new GuessedPlace();
        for (int[] at : places) {
            p.point(at[0], at[1]);
            p.box(at[0], at[1], at[0], at[1]);
            none.box(at[0], at[1], at[0], at[1]);
        }
        for (int box = 0; box < places.length; box++) {
            for (int what = 0; what < 4; what++) {
                CHECK.due("box " + box + " alone, what " + what, p.boxed(box, what), 1);
                CHECK.due("box " + box + " empty, what " + what, none.boxed(box, what), 0);
            }
        }
    }

    private static void bestOrder() {
        GuessedPlace p = new GuessedPlace();
        CHECK.due("no boxes", p.bestOrder(), 0);
        for (int y = 0; y < 8; y++) {
            for (int x = 0; x < 8; x++) {
                p.point(x, y);
            }
        }
        p.box(5, 4, 5, 4);
        CHECK.due("all alike: the least", p.bestOrder(), 0);
        p.box(2, 2, 3, 3);
        CHECK.due("by bits", p.bestOrder(), 1);
        p.box(0, 5, 0, 6);
        // By rows 1 + 10 + 9, by bits 1 + 4 + 7, by a snake 1 + 12 + 2.
        CHECK.due("by bits still", p.bestOrder(), 1);
        p.box(0, 1, 0, 2);
        p.box(0, 1, 0, 2);
        // By rows 9 each; bits 2 to 8 is seven; the snake 2: 26, 29 and 19 in all.
        CHECK.due("by a snake", p.bestOrder(), 2);
        GuessedPlace q = new GuessedPlace();
        q.box(0, 0, 31, 31);
        CHECK.due("no points", q.bestOrder(), 0);
        GuessedPlace one = new GuessedPlace();
        one.point(9, 2);
        one.box(2, 2, 3, 3);
        CHECK.due("one box, by bits none is read", one.bestOrder(), 1);
    }
}
