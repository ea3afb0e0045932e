/** Boundary cases of POINTS, BOXES and THE IMAGE in Term 4 and of promises 27 to 32. */
public final class PlaneEdgesTest {
    private static final Edges EDGES = new Edges("PlaneEdgesTest");
    private static final int[][] OFF = {{-1, 0}, {0, -1}, {32, 0}, {0, 32}, {32, 32}, {Edges.LEAST_INT, 5},
        {5, Edges.LEAST_INT}, {Edges.MOST_INT, 5}, {5, Edges.MOST_INT}};

    public static void main(String[] args) {
        points();
        pointRefused();
        boxes();
        boxRefused();
        numbers();
        readBounds();
        inBounds();
        boxedRefused();
        bestOfSeveral();
        noBoxes();
        imageOfNone();
        imageKeepsAll();
        imageLeavesTape();
        imageMoreThanOnce();
        lookRefused();
        EDGES.finish();
    }

    private static void points() {
        EDGES.sentence("Term 4", "POINTS 0 .. 99 as they come: x, y 0 .. 31.");
        GuessedPlace p = new GuessedPlace();
        int[][] corners = {{0, 0}, {31, 0}, {0, 31}, {31, 31}};
        for (int i = 0; i < 100; i++) {
            EDGES.due("point " + i, p.point(corners[i % 4][0], corners[i % 4][1]), i);
            EDGES.due("points", p.look(8), i + 1);
        }
        for (int[] off : OFF) {
            EDGES.due("off " + off[0] + " " + off[1], new GuessedPlace().point(off[0], off[1]), -1);
        }
    }

    private static void pointRefused() {
        EDGES.sentence("Promise 27", "A POINT: its number; NONE if one can't be, or there are 100.");
        GuessedPlace p = new GuessedPlace();
        p.box(0, 0, 31, 31);
        for (int[] off : OFF) {
            EDGES.due("off " + off[0] + " " + off[1], p.point(off[0], off[1]), -1);
        }
        EDGES.due("none came", p.look(8), 0);
        for (int i = 0; i < 100; i++) {
            EDGES.due("point " + i, p.point(7, 7), i);
        }
        EDGES.due("the 101st", p.point(7, 7), -1);
        EDGES.due("100 are there", p.look(8), 100);
        EDGES.due("alike ones count each", p.boxed(0, 0), 100);
    }

    private static void boxes() {
        EDGES.sentence("Term 4", "BEST ORDER for BOXES told (8 at most)");
        GuessedPlace p = new GuessedPlace();
        for (int i = 0; i < 8; i++) {
            EDGES.due("box " + i, p.box(i, 0, 31, 31 - i), i);
            EDGES.due("boxes", p.look(9), i + 1);
        }
        EDGES.due("the ninth", p.box(0, 0, 31, 31), -1);
        EDGES.due("eight are there", p.look(9), 8);
        EDGES.due("for eight, without points", p.bestOrder(), 0);
        p.point(0, 9);
        EDGES.due("for eight, by each of which (0, 9) is read in every order", p.bestOrder(), 0);
    }

    private static void boxRefused() {
        EDGES.sentence("Promise 28", "A BOX: its number; NONE if one can't be (x0 above x1, y0 above y1), or there are"
            + " eight.");
        GuessedPlace p = new GuessedPlace();
        EDGES.due("x0 above x1", p.box(5, 5, 4, 5), -1);
        EDGES.due("y0 above y1", p.box(5, 5, 5, 4), -1);
        EDGES.due("both", p.box(31, 31, 0, 0), -1);
        for (int[] off : OFF) {
            EDGES.due("from " + off[0] + " " + off[1], p.box(off[0], off[1], 31, 31), -1);
            EDGES.due("to " + off[0] + " " + off[1], p.box(0, 0, off[0], off[1]), -1);
            EDGES.due("off it wholly", p.box(off[0], off[1], off[0], off[1]), -1);
        }
        EDGES.due("none came", p.look(9), 0);
        EDGES.due("one place", p.box(5, 5, 5, 5), 0);
        EDGES.due("all places", p.box(0, 0, 31, 31), 1);
        EDGES.due("the first corner", p.box(0, 0, 0, 0), 2);
        EDGES.due("the last corner", p.box(31, 31, 31, 31), 3);
        for (int i = 4; i < 8; i++) {
            EDGES.due("box " + i, p.box(0, 0, 31, 31), i);
        }
        EDGES.due("a ninth", p.box(5, 5, 5, 5), -1);
    }

    private static int numberBy(int order, int x, int y) {
        if (order != 1) {
            return 32 * y + (order == 2 && y % 2 == 1 ? 31 - x : x);
        }
        // By bits a quarter of the plane comes whole before the next: that of the greater x, then of the greater y.
        int n = 0;
        for (int side = 16; side > 0; side /= 2) {
            n = 4 * n + x / side % 2 + 2 * (y / side % 2);
        }
        return n;
    }

    private static int between(int[][] points, int order, int least, int greatest) {
        int many = 0;
        for (int[] point : points) {
            int n = numberBy(order, point[0], point[1]);
            many += n >= least && n <= greatest ? 1 : 0;
        }
        return many;
    }

    private static int[][] hundred() {
        int[][] points = new int[100][];
        for (int i = 0; i < 100; i++) {
            points[i] = new int[] {i * 7 % 32, i * 11 % 32};
        }
        return points;
    }

    private static void numbers() {
        EDGES.sentence("Term 4", "ORDERS: 0 by rows: 32 y + x; 1 by bits: those of x and y in turn, of x lowest; 2 by a"
            + " snake: as by rows, but odd rows from the right: 32 y + 31 - x.");
        int[][] points = hundred();
        int[][] boxes = {{0, 0, 0, 0}, {31, 31, 31, 31}, {0, 31, 31, 31}, {31, 0, 31, 31}, {0, 0, 0, 31}, {0, 0, 31, 0},
            {3, 4, 20, 9}, {15, 15, 16, 16}, {1, 1, 2, 2}, {7, 0, 8, 31}, {0, 7, 31, 8}, {16, 16, 31, 31},
            {0, 16, 15, 31}, {5, 5, 5, 6}, {5, 6, 5, 7}, {30, 1, 31, 2}};
        for (int from = 0; from < boxes.length; from += 8) {
            GuessedPlace p = new GuessedPlace();
            for (int[] point : points) {
                p.point(point[0], point[1]);
            }
            for (int i = from; i < from + 8; i++) {
                int[] b = boxes[i];
                int box = p.box(b[0], b[1], b[2], b[3]);
                for (int order = 0; order < 3; order++) {
                    EDGES.due("box " + i + " by " + order, p.boxed(box, 1 + order), readOf(points, order, b));
                }
                EDGES.due("in box " + i, p.boxed(box, 0), inOf(points, b));
            }
        }
    }

    /** By the words alone: the numbers of all places in the box are looked at. */
    private static int readOf(int[][] points, int order, int[] box) {
        int least = Edges.MOST_INT;
        int greatest = -1;
        for (int x = box[0]; x <= box[2]; x++) {
            for (int y = box[1]; y <= box[3]; y++) {
                least = Math.min(least, numberBy(order, x, y));
                greatest = Math.max(greatest, numberBy(order, x, y));
            }
        }
        return between(points, order, least, greatest);
    }

    private static int inOf(int[][] points, int[] box) {
        int many = 0;
        for (int[] point : points) {
            boolean isIn = point[0] >= box[0] && point[0] <= box[2] && point[1] >= box[1] && point[1] <= box[3];
            many += isIn ? 1 : 0;
        }
        return many;
    }

    private static void reads(int[] box, int order, int x, int y, int want) {
        GuessedPlace p = new GuessedPlace();
        p.point(x, y);
        p.box(box[0], box[1], box[2], box[3]);
        EDGES.due("order " + order + " reads " + x + " " + y, p.boxed(0, 1 + order), want);
    }

    private static void readBounds() {
        EDGES.sentence("Term 4", "READ by an ORDER: all whose number by it is from the least to the greatest number of any"
            + " place in the BOX");
        int[] even = {4, 2, 5, 3};
        // By rows 68 to 101.
        int[][] byRows = {{3, 2, 0}, {4, 2, 1}, {31, 2, 1}, {0, 3, 1}, {5, 3, 1}, {6, 3, 0}};
        // By bits 24 to 27: 23 is (7, 1), 28 is (6, 2).
        int[][] byBits = {{7, 1, 0}, {4, 2, 1}, {5, 2, 1}, {4, 3, 1}, {5, 3, 1}, {6, 2, 0}};
        // By a snake 68 to 123.
        int[][] bySnake = {{3, 2, 0}, {4, 2, 1}, {31, 2, 1}, {31, 3, 1}, {4, 3, 1}, {3, 3, 0}};
        int[][][] all = {byRows, byBits, bySnake};
        for (int order = 0; order < 3; order++) {
            for (int[] row : all[order]) {
                reads(even, order, row[0], row[1], row[2]);
            }
        }
        // By a snake 122 to 133: an odd row is first.
        int[] odd = {4, 3, 5, 4};
        int[][] fromOdd = {{6, 3, 0}, {5, 3, 1}, {0, 3, 1}, {0, 4, 1}, {5, 4, 1}, {6, 4, 0}};
        for (int[] row : fromOdd) {
            reads(odd, 2, row[0], row[1], row[2]);
        }
        int[] last = {31, 31, 31, 31};
        reads(last, 0, 31, 31, 1);
        reads(last, 1, 31, 31, 1);
        reads(last, 2, 31, 31, 1);
        reads(last, 2, 30, 31, 0);
        for (int order = 0; order < 3; order++) {
            reads(new int[] {0, 0, 0, 0}, order, 0, 0, 1);
            reads(new int[] {0, 0, 0, 0}, order, 1, 0, 0);
            reads(new int[] {1, 0, 1, 0}, order, 0, 0, 0);
            reads(new int[] {0, 2, 0, 2}, order, 0, 1, 0);
            reads(new int[] {0, 2, 0, 2}, order, 1, 1, 0);
            reads(new int[] {0, 1, 0, 1}, order, 0, 2, 0);
            reads(new int[] {31, 1, 31, 1}, order, 31, 0, 0);
        }
    }

    private static void inBounds() {
        EDGES.sentence("Term 4", "A BOX x0 .. x1, y0 .. y1: IN it are so many POINTS");
        int[][] places = {{3, 5, 0}, {4, 5, 1}, {6, 5, 1}, {7, 5, 0}, {5, 4, 1}, {5, 3, 0}, {5, 8, 1}, {5, 9, 0},
            {4, 4, 1}, {6, 8, 1}, {7, 8, 0}, {4, 3, 0}};
        for (int[] at : places) {
            GuessedPlace p = new GuessedPlace();
            p.point(at[0], at[1]);
            p.box(4, 4, 6, 8);
            EDGES.due("place " + at[0] + " " + at[1], p.boxed(0, 0), at[2]);
        }
        GuessedPlace none = new GuessedPlace();
        none.box(0, 0, 31, 31);
        for (int what = 0; what < 4; what++) {
            EDGES.due("no points, what " + what, none.boxed(0, what), 0);
        }
        none.point(9, 9);
        EDGES.due("a point that comes behind the box", none.boxed(0, 0), 1);
    }

    private static void boxedRefused() {
        EDGES.sentence("Promise 29", "NONE if there is none such, or another what.");
        GuessedPlace p = new GuessedPlace();
        EDGES.due("no boxes", p.boxed(0, 0), -1);
        p.point(1, 1);
        p.box(1, 1, 1, 1);
        p.box(0, 0, 0, 0);
        int[][] wrong = {{-1, 0}, {2, 0}, {7, 0}, {8, 0}, {0, -1}, {0, 4}, {Edges.LEAST_INT, 0}, {Edges.MOST_INT, 0},
            {0, Edges.LEAST_INT}, {0, Edges.MOST_INT}};
        for (int[] w : wrong) {
            EDGES.due("boxed " + w[0] + " " + w[1], p.boxed(w[0], w[1]), -1);
        }
        EDGES.due("the first", p.boxed(0, 3), 1);
        EDGES.due("the last", p.boxed(1, 3), 0);
    }

    private static void bestOfSeveral() {
        EDGES.sentence("Term 4", "that by which fewest are READ together, of several the least.");
        GuessedPlace p = new GuessedPlace();
        p.box(0, 0, 31, 31);
        EDGES.due("none is read by any", p.bestOrder(), 0);
        p.point(9, 9);
        EDGES.due("one by each", p.bestOrder(), 0);
        // (9, 2) is read for (2, 2) to (3, 3) by rows and by a snake, not by bits.
        GuessedPlace bits = new GuessedPlace();
        bits.point(9, 2);
        bits.box(2, 2, 3, 3);
        EDGES.due("by bits", bits.bestOrder(), 1);
        // (0, 1) to (0, 2) is 32 to 64 by rows, 2 to 8 by bits, 63 to 64 by a snake: (2, 1) is 34, 6 and 61.
        GuessedPlace snake = new GuessedPlace();
        snake.point(2, 1);
        snake.box(0, 1, 0, 2);
        EDGES.due("by a snake", snake.bestOrder(), 2);
        // (5, 1) is 37, 19 and 58.
        GuessedPlace two = new GuessedPlace();
        two.point(5, 1);
        two.box(0, 1, 0, 2);
        EDGES.due("by bits and by a snake none: the lesser", two.bestOrder(), 1);
        // (2, 2) to (3, 3) reads (9, 2) but by bits; (0, 1) to (1, 2), by bits 2 to 9, reads (2, 0) and (3, 0) by bits alone.
        GuessedPlace together = new GuessedPlace();
        together.point(9, 2);
        together.point(2, 0);
        together.box(2, 2, 3, 3);
        EDGES.due("by bits for the first alone", together.bestOrder(), 1);
        together.box(0, 1, 1, 2);
        EDGES.due("one each together: the least", together.bestOrder(), 0);
        together.point(3, 0);
        together.point(30, 1);
        EDGES.due("by a snake, which reads (30, 1) for none", together.bestOrder(), 2);
    }

    private static void noBoxes() {
        EDGES.sentence("Promise 30", "BEST ORDER (0 without BOXES).");
        GuessedPlace p = new GuessedPlace();
        EDGES.due("no points", p.bestOrder(), 0);
        p.point(9, 2);
        EDGES.due("one point", p.bestOrder(), 0);
        EDGES.due("a refused box", p.box(3, 3, 2, 2), -1);
        EDGES.due("is none", p.bestOrder(), 0);
    }

    private static void imageOfNone() {
        EDGES.sentence("Promise 31", "THE IMAGE is taken (true), or gone back to (false): true; false if there is none.");
        GuessedPlace p = Edges.with("key 5;");
        EDGES.due("none", p.image(false), false);
        EDGES.due("nothing is done", p.count(5), 1);
        EDGES.due("taken", p.image(true), true);
        EDGES.due("gone back to", p.image(false), true);
        EDGES.due("as it was", p.count(5), 1);
        GuessedPlace empty = new GuessedPlace();
        EDGES.due("of nothing", empty.image(true), true);
        empty.insert(5);
        EDGES.due("gone back to nothing", empty.image(false), true);
        EDGES.due("no keys", empty.look(0), 0);
    }

    private static void imageKeepsAll() {
        EDGES.sentence("Term 4", "THE IMAGE: all that is and was told but the TAPE and fault(), as it was when it was"
            + " taken");
        GuessedPlace p = Edges.with("slack 0;upper 0;key 0;key 1;key 10;key 11 7;");
        p.remove(1);
        p.insert(20);
        p.insert(30);
        p.undo(true);
        p.lay();
        p.put(15);
        p.point(3, 3);
        p.box(3, 3, 4, 4);
        for (int what = 2; what < 8; what++) {
            p.set(what, what == 6 ? 3 : 9 + what);
        }
        p.image(true);
        Check.tell(p, "slack 3;upper 3;room 3;drop 0;drop 11;run 100 30 7;");
        p.set(3, 1);
        p.set(4, 2);
        p.set(5, 8);
        p.set(6, 1);
        p.set(7, 1);
        p.lay();
        p.point(4, 4);
        p.box(0, 0, 31, 31);
        p.insert(7);
        p.image(false);
        int[] looks = {4, 4, 1, 1, 2, 4, 2, 1, 1, 1, 2, 1, -1, -1, -1, -1, -1, -1, -1, -1, 0, 0, 11, 12, 13, 14, 3, 16};
        for (int what = 0; what < looks.length; what++) {
            EDGES.due("look " + what, p.look(what), looks[what]);
        }
        int[] keys = {0, 10, 11, 20};
        int[] counts = {1, 1, 7, 1};
        for (int i = 0; i < keys.length; i++) {
            EDGES.due("key " + i, p.key(i), keys[i]);
            EDGES.due("count " + i, p.count(keys[i]), counts[i]);
        }
        int[] cells = {0, 0, 16, 10, 32, 11, 48, 20, 40, 15};
        for (int i = 0; i < cells.length; i += 2) {
            EDGES.due("cell " + cells[i], p.cell(cells[i]), cells[i + 1]);
        }
        EDGES.due("the row", p.seek(11, 0), 3);
        EDGES.due("its pieces", p.piece(0, 1, 4), 10);
        EDGES.due("the box", p.boxed(0, 0), 1);
        EDGES.due("no other box", p.boxed(1, 0), -1);
        EDGES.due("the undone act", p.undo(false), 30);
        EDGES.due("the done acts", p.undo(true) + p.undo(true) + p.undo(true), 51);
        EDGES.due("1 is back", p.count(1), 1);
    }

    private static void imageLeavesTape() {
        EDGES.sentence("Term 4", "all that is and was told but the TAPE and fault()");
        GuessedPlace p = new GuessedPlace();
        Check.tell(p, "key 1;slack 21;");
        Check.feed(p, "key 2;");
        p.image(true);
        Check.feed(p, "");
        Check.tell(p, "key 3;  x");
        Check.feed(p, "key 4;");
        p.image(false);
        EDGES.due("the fault stays", p.fault(0), 1);
        EDGES.due("its place stays", p.fault(1), 8);
        EDGES.due("the tape stays", p.end(6), true);
        EDGES.due("is told", p.text(), 1);
        EDGES.due("4 alone", p.count(4), 1);
        p.image(false);
        EDGES.due("no fault comes back", p.fault(0), 0);
        EDGES.due("no tape comes back", p.end(1), false);
        EDGES.due("no keys", p.look(0), 0);
    }

    private static void imageMoreThanOnce() {
        EDGES.sentence("Term 4", "gone back to it may be more than once.");
        GuessedPlace p = Edges.with("run 0 5 10;");
        p.image(true);
        for (int i = 0; i < 5; i++) {
            p.remove(10 * i);
            p.insert(77 + i);
            p.put(i);
            p.build();
            EDGES.due("back", p.image(false), true);
            EDGES.due("keys", p.look(0), 5);
            EDGES.due("cost", p.look(5), 5);
            EDGES.due("acts", p.look(6), 0);
            EDGES.due("counted", p.range(0, 40, 2), 100);
            EDGES.due("cells", p.cell(31), Check.NOTHING);
        }
        EDGES.due("back at once", p.image(false), true);
        p.insert(99);
        p.image(true);
        p.remove(99);
        EDGES.due("the latest one", p.image(false), true);
        EDGES.due("has 99", p.count(99), 1);
    }

    private static void lookRefused() {
        EDGES.sentence("Promise 32", "10 + l PIECES of level l, 20 + k what was told as set() k. NONE for another what.");
        GuessedPlace p = Edges.with("slack 0;upper 0;key 0;key 1;key 10;key 11;");
        EDGES.due("level 0", p.look(10), 2);
        EDGES.due("level 1", p.look(11), 1);
        int[] told = {0, 0, 4, 8, 8, 64, 2, 0};
        for (int k = 0; k < told.length; k++) {
            EDGES.due("told " + k, p.look(20 + k), told[k]);
        }
        for (int what : new int[] {-1, 12, 18, 19, 28, 29, 30, Edges.LEAST_INT, Edges.LEAST_INT + 20, Edges.MOST_INT}) {
            EDGES.due("look " + what, p.look(what), -1);
        }
    }
}
