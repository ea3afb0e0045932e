/** Boundary cases of GAPPED, POISON and FILTERS in Term 4 and of promises 21 to 26. */
public final class FilterEdgesTest {
    private static final Edges EDGES = new Edges("FilterEdgesTest");

    public static void main(String[] args) {
        emptyAtFirst();
        laid();
        canBePut();
        betweenCells();
        alikeFar();
        madeWay();
        putRefused();
        layAnswers();
        noCell();
        besideKeys();
        mostPieces();
        poisonOfSeveral();
        noPoison();
        poisonRefused();
        bitsAndHashes();
        hashes();
        noKeyPasses();
        widths();
        spans();
        otherKeys();
        whichFilter();
        falses();
        falsesRefused();
        EDGES.finish();
    }

    private static void cells(GuessedPlace p, int from, int... want) {
        for (int i = 0; i < want.length; i++) {
            EDGES.due("cell " + (from + i), p.cell(from + i), want[i]);
        }
    }

    private static int filled(GuessedPlace p) {
        int many = 0;
        for (int i = 0; i < 64; i++) {
            many += p.cell(i) == Check.NOTHING ? 0 : 1;
        }
        return many;
    }

    private static void emptyAtFirst() {
        EDGES.sentence("Term 4", "GAPPED: a row of 64 cells, empty at first.");
        EDGES.due("a new object's", filled(new GuessedPlace()), 0);
        EDGES.due("whatever keys there are", filled(Edges.full()), 0);
    }

    private static void laid() {
        EDGES.sentence("Term 4", "LAID: it gets the first 48 KEYS at most (n of them), the i-th in cell 64 i by n, all"
            + " else empty.");
        GuessedPlace p = Edges.with("key -5;");
        p.put(0);
        EDGES.due("one", p.lay(), 1);
        EDGES.due("all else is empty", filled(p), 1);
        cells(p, 0, -5);
        for (int n : new int[] {2, 3, 5, 47, 48, 49, 99}) {
            GuessedPlace q = Edges.with("run 10 " + n + " 10;");
            int many = Math.min(n, 48);
            EDGES.due("laid of " + n, q.lay(), many);
            EDGES.due("filled of " + n, filled(q), many);
            for (int i = 0; i < many; i++) {
                EDGES.due("the " + i + "th of " + n, q.cell((int) Math.floor(64.0 * i / many)), 10 + 10 * i);
            }
        }
        GuessedPlace both = Edges.with("key 10;key 20;key 30;");
        both.remove(20);
        both.insert(5);
        EDGES.due("of row and buffer, no gone one", both.lay(), 3);
        cells(both, 0, 5);
        cells(both, 21, 10);
        cells(both, 42, 30);
        Check.tell(both, "drop 5;drop 10;drop 30;");
        EDGES.due("none", both.lay(), 0);
        EDGES.due("all empty", filled(both), 0);
    }

    private static void canBePut() {
        EDGES.sentence("Term 4", "PUT x (a number that can be a KEY, not in it)");
        GuessedPlace p = new GuessedPlace();
        EDGES.due("the least", p.put(-999999999), 0);
        EDGES.due("the greatest", p.put(999999999), 0);
        for (int x : new int[] {-1000000000, 1000000000, Check.NOTHING, Edges.LEAST_INT, Edges.MOST_INT}) {
            EDGES.due("put " + x, p.put(x), -1);
        }
        EDGES.due("in it", p.put(-999999999), -1);
        EDGES.due("in it", p.put(999999999), -1);
        EDGES.due("two are there", filled(p), 2);
        p.insert(7);
        EDGES.due("a key that is not in it", p.put(7), 0);
        EDGES.due("put is no key's count", p.count(-999999999), 0);
    }

    private static void betweenCells() {
        EDGES.sentence("Term 4", "(b; none: -1, 64): if cells lie between, in cell (a + b) by 2");
        GuessedPlace p = new GuessedPlace();
        int[] lesser = {31, 15, 7, 3, 1, 0};
        for (int i = 0; i < lesser.length; i++) {
            EDGES.due("a lesser one", p.put(-i), 0);
            cells(p, lesser[i], -i);
        }
        int[] greater = {47, 55, 59, 61, 62, 63};
        for (int i = 0; i < greater.length; i++) {
            EDGES.due("a greater one", p.put(100 + i), 0);
            cells(p, greater[i], 100 + i);
        }
        EDGES.due("between 31 and 47", p.put(50), 0);
        cells(p, 39, 50);
        GuessedPlace one = Edges.with("run 0 32 10;");
        one.lay();
        EDGES.due("one cell between 0 and 2", one.put(5), 0);
        cells(one, 0, 0, 5, 10);
    }

    private static void alikeFar() {
        EDGES.sentence("Term 4", "(of two alike far the left one; how far: from a to the left, from b to the right)");
        // 40 keys: cells 0 1 . 3 4 . 6 . 8 9 .; 20 and 30 are in 3 and 4, an empty cell one off on either side.
        GuessedPlace p = Edges.with("run 0 40 10;");
        p.lay();
        cells(p, 2, Check.NOTHING, 20, 30, Check.NOTHING, 40);
        EDGES.due("alike far", p.put(25), 1);
        cells(p, 2, 20, 25, 30, Check.NOTHING, 40);
        // Cells 0 to 4 are full: of 27 there is none on the left, 5 is one off on the right.
        EDGES.due("the right alone", p.put(27), 1);
        cells(p, 2, 20, 25, 27, 30, 40);
        // 48 keys: cells 0 1 2 . 4 5 6 . 8: 30, 40, 50 are in 4, 5, 6.
        GuessedPlace q = Edges.with("run 0 48 10;");
        q.lay();
        cells(q, 3, Check.NOTHING, 30, 40, 50, Check.NOTHING);
        EDGES.due("1 off on the left, 2 on the right", q.put(35), 1);
        cells(q, 3, 30, 35, 40, 50, Check.NOTHING);
        EDGES.due("1 off on the right", q.put(45), 1);
        cells(q, 3, 30, 35, 40, 45, 50);
        // Cells 0 to 10 are full now: 55 has 11 three off on the right, and none on the left.
        EDGES.due("three off on the right", q.put(55), 3);
        cells(q, 7, 50, 55, 60, 70, 80, 90);
        firstAndLastCell();
    }

    /** The nearest empty cell is the first of all, and the last of all. */
    private static void firstAndLastCell() {
        GuessedPlace p = new GuessedPlace();
        for (int x = 1000; x >= 600; x -= 100) {
            p.put(x);
        }
        // 600, 700, 800 are in 1, 3, 7; 650 comes into 2, and 620 has 0 one off on the left, 4 two off on the right.
        EDGES.due("650", p.put(650), 0);
        EDGES.due("620", p.put(620), 1);
        cells(p, 0, 600, 620, 650, 700, Check.NOTHING);
        GuessedPlace q = new GuessedPlace();
        for (int x = 0; x <= 500; x += 100) {
            q.put(x);
        }
        // 300, 400, 500 are in 59, 61, 62; 350 comes into 60, and 450 has 58 three off on the left, 63 one on the right.
        EDGES.due("350", q.put(350), 0);
        EDGES.due("450", q.put(450), 1);
        cells(q, 58, Check.NOTHING, 300, 350, 400, 450, 500);
    }

    private static void madeWay() {
        EDGES.sentence("Term 4", "is filled by moving all between by one, and x comes to where they made way (from the"
            + " left: cell a; from the right: cell b): how many were MOVED.");
        GuessedPlace p = new GuessedPlace();
        for (int x = 0; x < 7; x++) {
            p.put(x);
        }
        // 0 to 6 are in 31, 47, 55, 59, 61, 62, 63: 60 is three off from 63.
        EDGES.due("a greater one, behind the last cell", p.put(7), 3);
        cells(p, 59, 3, 4, 5, 6, 7);
        GuessedPlace q = new GuessedPlace();
        for (int x = 6; x > 0; x--) {
            q.put(x);
        }
        // 1 to 6 are in 0, 1, 3, 7, 15, 31: 2 is two off from 0.
        EDGES.due("a lesser one, ahead of the first cell", q.put(0), 2);
        cells(q, 0, 0, 1, 2, 3);
        GuessedPlace r = Edges.with("run 0 48 10;");
        r.lay();
        // 450, 460, 470 are in 60, 61, 62.
        EDGES.due("in the last cell", r.put(1000), 0);
        EDGES.due("60 to 63 are full, 59 is empty", r.put(1001), 4);
        cells(r, 58, 440, 450, 460, 470, 1000, 1001);
    }

    private static void putRefused() {
        EDGES.sentence("Promise 22", "NONE if one can't be, or no cell is empty.");
        GuessedPlace p = Edges.with("run 0 48 10;");
        p.lay();
        for (int i = 0; i < 15; i++) {
            p.put(1000 + i);
        }
        EDGES.due("63 are there", filled(p), 63);
        EDGES.due("the 64th", p.put(5) >= 0, true);
        EDGES.due("64 are there", filled(p), 64);
        for (int x : new int[] {-1, 7, 2000, 999999999, -999999999}) {
            EDGES.due("put " + x + " into a full row", p.put(x), -1);
        }
        cells(p, 0, 0, 5, 10);
        cells(p, 63, 1014);
        EDGES.due("in it already", p.put(5), -1);
        EDGES.due("can be no key", p.put(1000000000), -1);
        EDGES.due("laid anew, there is room", p.lay(), 48);
        EDGES.due("again", p.put(5) >= 0, true);
    }

    private static void layAnswers() {
        EDGES.sentence("Promise 21", "GAPPED is LAID: how many are in it.");
        EDGES.due("none", new GuessedPlace().lay(), 0);
        EDGES.due("of 300", Edges.full().lay(), 48);
        GuessedPlace p = Edges.with("run 1 47 1;");
        EDGES.due("47", p.lay(), 47);
        p.insert(48);
        EDGES.due("48", p.lay(), 48);
        p.insert(49);
        EDGES.due("49 are too many", p.lay(), 48);
        EDGES.due("the last of them", p.cell(62), 48);
    }

    private static void noCell() {
        EDGES.sentence("Promise 23", "What is in a cell; NONE - 1000000000: nothing, or no such cell.");
        GuessedPlace p = Edges.with("key -1;key -999999999;");
        p.lay();
        EDGES.due("the first", p.cell(0), -999999999);
        EDGES.due("a key -1", p.cell(32), -1);
        p.put(0);
        p.put(1);
        EDGES.due("0", p.cell(48), 0);
        for (int i : new int[] {1, 31, 33, 63, 64, 65, -1, Edges.LEAST_INT, Edges.MOST_INT}) {
            EDGES.due("cell " + i, p.cell(i), -1000000001);
        }
        for (int x = 2; x < 8; x++) {
            p.put(x);
        }
        EDGES.due("the last cell", p.cell(63) > 0, true);
    }

    private static void poison(GuessedPlace p, int number, int pieces) {
        EDGES.due("the number", p.poison(0), number);
        EDGES.due("pieces then", p.poison(1), pieces);
    }

    private static void besideKeys() {
        EDGES.sentence("Term 4", "POISON: of all numbers beside a KEY (1 less or more) that are no KEYS");
        poison(Edges.with("key 5;"), 4, 1);
        // 5 and 6 have 4 and 7 beside them: 5 beside 6 is a key.
        poison(Edges.with("key 5;key 6;"), 4, 1);
        poison(Edges.with("slack 0;key 5;key 6;key 7;"), 4, 1);
        // 0 10 20, slack 0: the numbers are -1 1 9 11 19 21; all make two pieces, a number farther off would, too.
        poison(Edges.with("slack 0;run 0 3 10;"), -1, 2);
        // One more key must be one that can be: what lies beyond them is not taken.
        poison(Edges.with("key -999999999;"), -999999998, 1);
        poison(Edges.with("key 999999999;"), 999999998, 1);
    }

    private static void mostPieces() {
        EDGES.sentence("Term 4", "that with which, if all were BUILT together with it, there were most PIECES");
        // 0 10 20 30, slack 0: with 11 it is 0 10, 11 20, 30; with the lesser ones there are two.
        poison(Edges.with("slack 0;run 0 4 10;"), 11, 3);
        GuessedPlace p = Edges.with("slack 0;run 0 3 10;");
        p.insert(30);
        poison(p, 11, 3);
        EDGES.due("nothing is built", p.look(2), 1);
        p.remove(0);
        poison(p, 9, 2);
        EDGES.due("the row is as it was", p.look(10), 1);
        // Slack 1: 0 23 24 28 30 are two pieces, for 23 and 30 want 1 / 7 at least, 0 and 23 want 3 / 23 at most. So are
        // 25 and 27 among them; -1, 1, 29 and 31 make one.
        poison(Edges.with("key 0;key 24;key 28;key 30;"), 23, 2);
        // Of 300 keys, too, one more is thought of.
        GuessedPlace full = Edges.with("slack 0;run 0 99 2;run 198 99 2;run 396 99 2;run 594 3 2;");
        poison(full, 3, 3);
        EDGES.due("300 still", full.look(0), 300);
        // Only the pieces of the row count: these have levels above.
        poison(Edges.with("slack 0;upper 0;key 0;key 1;key 10;key 11;"), -1, 2);
    }

    private static void poisonOfSeveral() {
        EDGES.sentence("Term 4", "of several the least; how many then. FILTERS");
        poison(Edges.with("slack 20;run 0 9 10;"), -1, 1);
        poison(Edges.with("slack 0;run -50 3 10;"), -51, 2);
        poison(Edges.with("run -5 2 1;"), -6, 1);
    }

    private static void noPoison() {
        EDGES.sentence("Promise 24", "the number (NONE - 1000000000: none), 1 PIECES then (of all KEYS, if there is none).");
        poison(new GuessedPlace(), -1000000001, 0);
        GuessedPlace p = Edges.with("key 1;");
        p.remove(1);
        poison(p, -1000000001, 0);
        p.undo(true);
        poison(p, 0, 1);
        poison(Edges.withKeys(5), 4, 1);
    }

    private static void poisonRefused() {
        EDGES.sentence("Promise 24", "NONE for another what.");
        for (int what : new int[] {-1, 2, Edges.LEAST_INT, Edges.MOST_INT}) {
            EDGES.due("what " + what, Edges.with("run 0 9 3;").poison(what), -1);
            EDGES.due("without keys, what " + what, new GuessedPlace().poison(what), -1);
        }
    }

    private static void bitsAndHashes() {
        EDGES.sentence("Term 4", "plain: BITS 8 .. 512 (64 at first), HASHES 1 .. 4 (2 at first)");
        GuessedPlace p = new GuessedPlace();
        EDGES.due("bits at first", p.look(25), 64);
        EDGES.due("hashes at first", p.look(26), 2);
        int[][] bounds = {{5, 7, 8, 512, 513}, {6, 0, 1, 4, 5}};
        for (int[] b : bounds) {
            EDGES.due("too few of " + b[0], p.set(b[0], b[1]), false);
            EDGES.due("the least of " + b[0], p.set(b[0], b[2]), true);
            EDGES.due("the most of " + b[0], p.set(b[0], b[3]), true);
            EDGES.due("too many of " + b[0], p.set(b[0], b[4]), false);
            EDGES.due("is told", p.look(20 + b[0]), b[3]);
        }
        p.insert(5);
        EDGES.due("512 bits by 4 hashes", p.passes(5, false), true);
    }

    /** Hash h of x with remainders taken as early as can be. */
    private static int hash(long x, int h, int bits) {
        long base = (x + 1000000000) % 2147483647;
        return (int) ((base * (40503 + 2 * h) + 977 * h) % 2147483647 % bits);
    }

    private static boolean passesBy(int[] keys, int x, int hashes, int bits) {
        for (int h = 0; h < hashes; h++) {
            boolean isSet = false;
            for (int key : keys) {
                for (int other = 0; other < hashes; other++) {
                    isSet |= hash(key, other, bits) == hash(x, h, bits);
                }
            }
            if (!isSet) {
                return false;
            }
        }
        return true;
    }

    private static void hashes() {
        EDGES.sentence("Term 4", "those of all KEYS are set; x passes if all of its own are");
        int[] keys = {-999999999, -7, 12, 999999999};
        for (int hashes = 1; hashes <= 4; hashes++) {
            for (int bits : new int[] {8, 9, 64, 511, 512}) {
                GuessedPlace p = Edges.withKeys(keys);
                p.set(5, bits);
                p.set(6, hashes);
                for (int x : new int[] {-999999999, -999999998, -7, 0, 1, 2, 3, 12, 13, 999999998, 999999999}) {
                    EDGES.due(x + " by " + hashes + " of " + bits, p.passes(x, false), passesBy(keys, x, hashes, bits));
                }
            }
        }
        for (int bits : new int[] {8, 511, 512}) {
            GuessedPlace p = Edges.withKeys(keys);
            p.set(5, bits);
            p.set(6, 1);
            int want = 0;
            for (int x = 100; x < 5100; x++) {
                want += passesBy(keys, x, 1, bits) ? 1 : 0;
            }
            EDGES.due("how many by one of " + bits, p.falses(100, 5099, false), want);
        }
        GuessedPlace full = Edges.full();
        EDGES.due("behind 300 keys", full.passes(1000, true), full.falses(1000, 1000, true) == 1);
        GuessedPlace none = new GuessedPlace();
        none.set(5, 8);
        none.set(6, 1);
        for (int x = 0; x < 20; x++) {
            EDGES.due("no keys, " + x, none.passes(x, x % 2 == 0), false);
        }
        GuessedPlace gone = Edges.with("key 5;");
        gone.remove(5);
        EDGES.due("a gone one", gone.passes(5, false), false);
    }

    private static void noKeyPasses() {
        EDGES.sentence("Term 4", "(a number that can be no KEY never does)");
        GuessedPlace p = Edges.with("run 0 99 1;run 999999901 99 1;run -999999999 99 1;");
        p.set(5, 8);
        p.set(7, 99999);
        for (int x : new int[] {-1000000000, 1000000000, Check.NOTHING, Edges.LEAST_INT, Edges.MOST_INT}) {
            EDGES.due("plain " + x, p.passes(x, false), false);
            EDGES.due("learnt " + x, p.passes(x, true), false);
        }
        for (int x : new int[] {-999999999, -999999998, 999999998, 999999999}) {
            EDGES.due("plain " + x, p.passes(x, false), true);
            EDGES.due("learnt " + x, p.passes(x, true), true);
        }
        EDGES.due("all others pass", p.passes(-500000000, false), true);
        // The learnt filter's plain one, all of whose bits are set by keys far from each other.
        GuessedPlace far = Edges.with("run 0 99 99999;");
        far.set(5, 8);
        EDGES.due("learnt, can be a key", far.passes(999999999, true), true);
        EDGES.due("learnt, can be none", far.passes(1000000000, true), false);
        EDGES.due("learnt, can be none", far.passes(-1000000000, true), false);
    }

    private static void widths() {
        EDGES.sentence("Term 4", "KEYS that are at most WIDTH (0 .. 99999; 0 at first) from the next one are one SPAN with"
            + " it");
        GuessedPlace p = Edges.with("key 0;key 5;key 11;key 100010;");
        p.set(5, 512);
        p.set(6, 4);
        EDGES.due("0 at first", p.look(27), 0);
        int[] width = {0, 4, 5, 6, 99998, 99999};
        boolean[][] want = {{false, false, false}, {false, false, false}, {true, false, false}, {true, true, false},
            {true, true, false}, {true, true, true}};
        for (int i = 0; i < width.length; i++) {
            EDGES.due("set", p.set(7, width[i]), true);
            EDGES.due("3 with width " + width[i], p.passes(3, true), want[i][0]);
            EDGES.due("8 with width " + width[i], p.passes(8, true), want[i][1]);
            EDGES.due("50000 with width " + width[i], p.passes(50000, true), want[i][2]);
            EDGES.due("plain, with width " + width[i], p.passes(3, false), false);
        }
        EDGES.due("too wide", p.set(7, 100000), false);
        EDGES.due("too narrow", p.set(7, -1), false);
        GuessedPlace far = Edges.with("key -999999999;key 999999999;");
        far.set(7, 99999);
        far.set(5, 512);
        far.set(6, 4);
        EDGES.due("as far as can be", far.passes(0, true), passesBy(new int[] {-999999999, 999999999}, 0, 4, 512));
    }

    private static void spans() {
        EDGES.sentence("Term 4", "x passes if it lies in a SPAN of 2 KEYS or more");
        GuessedPlace p = Edges.with("key 10;key 15;key 40;key 45;key 50;key 90;");
        p.set(5, 512);
        p.set(6, 4);
        p.set(7, 5);
        int[] in = {10, 11, 14, 15, 40, 41, 45, 49, 50, 90};
        int[] out = {9, 16, 39, 51, 89, 91};
        for (int x : in) {
            EDGES.due("in, " + x, p.passes(x, true), true);
        }
        for (int x : out) {
            EDGES.due("out, " + x, p.passes(x, true), passesBy(new int[] {90}, x, 4, 512));
        }
        p.remove(15);
        EDGES.due("one key is no span", p.passes(12, true), false);
        EDGES.due("but a key", p.passes(10, true), true);
        p.insert(15);
        p.insert(95);
        EDGES.due("with one that waits", p.passes(92, true), true);
    }

    private static void otherKeys() {
        EDGES.sentence("Term 4", "or passes a plain filter of the other KEYS alone.");
        GuessedPlace p = Edges.with("run 0 99 1;key 5000;key 7000;");
        p.set(5, 16);
        p.set(6, 1);
        p.set(7, 1);
        int[] others = {5000, 7000};
        int learnt = 0;
        for (int x = 200; x < 300; x++) {
            boolean want = passesBy(others, x, 1, 16);
            learnt += want ? 1 : 0;
            EDGES.due("learnt " + x, p.passes(x, true), want);
            EDGES.due("plain " + x, p.passes(x, false), true);
        }
        EDGES.due("some do, some do not", learnt > 0 && learnt < 100, true);
        EDGES.due("an other key", p.passes(5000, true), true);
        // A span of two: neither its first key nor its last is another one.
        GuessedPlace two = Edges.with("key 10;key 11;key 5000;key 7000;");
        two.set(5, 16);
        two.set(6, 1);
        two.set(7, 1);
        for (int x = 200; x < 300; x++) {
            EDGES.due("learnt, with a span of two, " + x, two.passes(x, true), passesBy(others, x, 1, 16));
        }
        GuessedPlace all = Edges.with("run 0 99 1;");
        all.set(7, 1);
        all.set(5, 8);
        EDGES.due("no other keys", all.passes(200, true), false);
        EDGES.due("falses without other keys", all.falses(99, 5098, true), 0);
    }

    private static void whichFilter() {
        EDGES.sentence("Promise 25", "Whether x passes the plain filter (learnt false) or the learnt one.");
        GuessedPlace p = Edges.with("key 0;key 100;");
        p.set(5, 512);
        p.set(6, 4);
        p.set(7, 100);
        int plain = 0;
        for (int x = 1; x < 100; x++) {
            plain += p.passes(x, false) ? 1 : 0;
            EDGES.due("learnt " + x, p.passes(x, true), true);
        }
        EDGES.due("few pass the plain one", plain < 50, true);
        EDGES.due("no key, no filter", new GuessedPlace().passes(0, false), false);
        EDGES.due("no key, no filter", new GuessedPlace().passes(0, true), false);
    }

    private static void falses() {
        EDGES.sentence("Term 4", "FALSE from a to b (at most 5000 of them): how many that are no KEYS pass.");
        GuessedPlace p = Edges.with("run 0 99 1;");
        p.set(5, 8);
        EDGES.due("one key", p.falses(5, 5, false), 0);
        EDGES.due("one that is none", p.falses(99, 99, false), 1);
        EDGES.due("both ends count", p.falses(-1, 99, false), 2);
        EDGES.due("5000", p.falses(0, 4999, false), 4901);
        EDGES.due("5001", p.falses(0, 5000, false), -1);
        EDGES.due("5000 below 0", p.falses(-5000, -1, false), 5000);
        EDGES.due("beyond the greatest", p.falses(999999990, 1000000010, false), 10);
        EDGES.due("beyond the least", p.falses(-1000000010, -999999990, false), 10);
        p.set(7, 1);
        EDGES.due("learnt, one span", p.falses(-1, 99, true), 0);
        p.remove(50);
        EDGES.due("a gone one is no key", p.falses(50, 50, false), 1);
        EDGES.due("learnt, 50 is in no span", p.falses(50, 50, true), 0);
        p.set(7, 2);
        EDGES.due("learnt, 50 is in the span", p.falses(50, 50, true), 1);
        EDGES.due("without keys", new GuessedPlace().falses(0, 4999, true), 0);
    }

    private static void falsesRefused() {
        EDGES.sentence("Promise 26", "NONE if one can't be (b below a, more than 5000).");
        GuessedPlace p = Edges.with("run 0 99 1;");
        int[][] wrong = {{5, 4}, {0, -1}, {0, 5000}, {-5000, 0}, {Edges.LEAST_INT, Edges.MOST_INT},
            {Edges.MOST_INT, Edges.LEAST_INT}, {Edges.LEAST_INT, 0}, {0, Edges.MOST_INT}, {-1, Edges.MOST_INT},
            {Edges.MOST_INT, Edges.LEAST_INT + 100}, {Edges.LEAST_INT, Edges.LEAST_INT + 5000}};
        for (int[] w : wrong) {
            EDGES.due("plain " + w[0] + " to " + w[1], p.falses(w[0], w[1], false), -1);
            EDGES.due("learnt " + w[0] + " to " + w[1], p.falses(w[0], w[1], true), -1);
        }
        EDGES.due("the last ints", p.falses(Edges.MOST_INT - 4999, Edges.MOST_INT, false), 0);
        EDGES.due("the first ints", p.falses(Edges.LEAST_INT, Edges.LEAST_INT + 4999, true), 0);
        EDGES.due("the very last", p.falses(Edges.MOST_INT, Edges.MOST_INT, true), 0);
    }
}
