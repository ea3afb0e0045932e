/** Promises 21 to 23: lay, put, cell. */
public final class GapsTest {
    private static final Check CHECK = new Check("GapsTest");

    public static void main(String[] args) {
        lay();
        put();
        nearestEmpty();
        alikeFar();
        fullRow();
        CHECK.finish();
    }

    private static void lay() {
        GuessedPlace p = new GuessedPlace();
        for (int i = -1; i <= 64; i++) {
            CHECK.due("empty at first", p.cell(i), Check.NOTHING);
        }
        CHECK.due("nothing to lay", p.lay(), 0);
        Check.tell(p, "run 100 3 1;");
        CHECK.due("not laid yet", p.cell(0), Check.NOTHING);
        CHECK.due("three", p.lay(), 3);
        for (int i = 0; i < 64; i++) {
            int want = i == 0 ? 100 : i == 21 ? 101 : i == 42 ? 102 : Check.NOTHING;
            CHECK.due("cell " + i, p.cell(i), want);
        }
        p.remove(101);
        p.insert(7);
        CHECK.due("row and buffer, no gone one", p.lay(), 3);
        CHECK.due("7", p.cell(0), 7);
        CHECK.due("100", p.cell(21), 100);
        Check.tell(p, "run 200 60 2;");
        CHECK.due("48 at most", p.lay(), 48);
        CHECK.due("64 47 by 48", p.cell(62), 288);
        CHECK.due("cell 63", p.cell(63), Check.NOTHING);
        CHECK.due("cell 64", p.cell(64), Check.NOTHING);
        CHECK.due("cell far off", p.cell(Integer.MIN_VALUE), Check.NOTHING);
    }

    private static void put() {
        GuessedPlace p = new GuessedPlace();
        CHECK.due("in the middle", p.put(0), 0);
        CHECK.due("(-1 + 64) by 2", p.cell(31), 0);
        CHECK.due("again", p.put(0), -1);
        CHECK.due("too great", p.put(1000000000), -1);
        CHECK.due("too small", p.put(-1000000000), -1);
        CHECK.due("the sign of an empty cell", p.put(Check.NOTHING), -1);
        CHECK.due("greatest", p.put(999999999), 0);
        CHECK.due("(31 + 64) by 2", p.cell(47), 999999999);
        CHECK.due("least", p.put(-999999999), 0);
        CHECK.due("(-1 + 31) by 2", p.cell(15), -999999999);
        CHECK.due("no key by that", p.look(0), 0);
        CHECK.due("no act by that", p.look(6), 0);
    }

    private static void nearestEmpty() {
        GuessedPlace p = new GuessedPlace();
        Check.tell(p, "run 0 32 10;");
        p.lay();
        // The i-th of 32 in cell 2 i: 0 in 0, 10 in 2, ..; 5 comes between, then all of 0 .. 2 are full.
        CHECK.due("5 between", p.put(5), 0);
        CHECK.due("cell 1", p.cell(1), 5);
        // 7: a = 1, b = 2; left none; right the cell 3: 10 moves there.
        CHECK.due("7 to the right", p.put(7), 1);
        CHECK.due("cell 2", p.cell(2), 7);
        CHECK.due("cell 3", p.cell(3), 10);
        // 6: a = 1, b = 2; cells 0 .. 4 are full, 5 is empty: 7, 10, 20 move.
        CHECK.due("6 to the right", p.put(6), 3);
        CHECK.due("cell 2", p.cell(2), 6);
        CHECK.due("cell 5", p.cell(5), 20);
        // 310 in cell 62; 320 comes in 63; then 330 has no right and 61 is the nearest on the left: two move.
        CHECK.due("320 behind", p.put(320), 0);
        CHECK.due("cell 63", p.cell(63), 320);
        CHECK.due("330 to the left", p.put(330), 2);
        CHECK.due("cell 63", p.cell(63), 330);
        CHECK.due("cell 62", p.cell(62), 320);
        CHECK.due("cell 61", p.cell(61), 310);
        // 155: between 150 in 30 and 160 in 32 lies cell 31. Then 157: a = 31, b = 32; left 29 two off, right 33 one.
        CHECK.due("155 between", p.put(155), 0);
        CHECK.due("157 to the right", p.put(157), 1);
        CHECK.due("cell 32", p.cell(32), 157);
        // 156: a = 31, b = 32; left 29 is two from 31, right 35 is three from 32.
        CHECK.due("156 to the left", p.put(156), 2);
        CHECK.due("cell 31", p.cell(31), 156);
        CHECK.due("cell 30", p.cell(30), 155);
        CHECK.due("cell 29", p.cell(29), 150);
    }

    private static void alikeFar() {
        GuessedPlace p = new GuessedPlace();
        Check.tell(p, "key 0;key 1000;key 2000;");
        p.lay();
        // 1000 is in 21, 2000 in 42: by halving the rest comes into 31, 36, 39, 40, 41.
        int[] cells = {31, 36, 39, 40, 41};
        for (int i = 0; i < cells.length; i++) {
            CHECK.due("put", p.put(1100 + 100 * i), 0);
            CHECK.due("cell " + cells[i], p.cell(cells[i]), 1100 + 100 * i);
        }
        // 39 .. 42 are full. 1450: a = 40, b = 41; 38 is two from a, 43 is two from b: 1300, 1400 move to the left.
        CHECK.due("alike far: the left", p.put(1450), 2);
        CHECK.due("cell 38", p.cell(38), 1300);
        CHECK.due("cell 39", p.cell(39), 1400);
        CHECK.due("cell 40", p.cell(40), 1450);
        CHECK.due("cell 41", p.cell(41), 1500);
        CHECK.due("cell 43", p.cell(43), Check.NOTHING);
    }

    private static void fullRow() {
        GuessedPlace p = new GuessedPlace();
        Check.tell(p, "run 0 48 10;");
        p.lay();
        for (int i = 0; i < 16; i++) {
            CHECK.due("put " + i, p.put(1000 + i) >= 0, true);
        }
        for (int i = 0; i < 64; i++) {
            CHECK.due("cell " + i, p.cell(i), i < 48 ? 10 * i : 952 + i);
        }
        CHECK.due("no cell is empty", p.put(5), -1);
        CHECK.due("laid anew", p.lay(), 48);
        CHECK.due("the last is far left of the end", p.cell(62), 470);
    }
}
