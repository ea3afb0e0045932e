/** Promises 11 to 14: count, key, rank, range. */
public final class KeysTest {
    private static final Check CHECK = new Check("KeysTest");

    public static void main(String[] args) {
        GuessedPlace p = new GuessedPlace();
        Check.tell(p, "key -20 3;key 0;key 40 2;key 999999999 99;key -999999999 99;");
        p.insert(10);
        p.insert(10);
        p.insert(50);
        p.remove(0);
        int[] keys = {-999999999, -20, 10, 40, 50, 999999999};
        int[] counts = {99, 3, 2, 2, 1, 99};
        CHECK.due("keys", p.look(0), keys.length);
        for (int i = 0; i < keys.length; i++) {
            CHECK.due("key " + i, p.key(i), keys[i]);
            CHECK.due("count of " + keys[i], p.count(keys[i]), counts[i]);
            CHECK.due("rank of " + keys[i], p.rank(keys[i]), i);
            CHECK.due("rank behind " + keys[i], p.rank(keys[i] + 1), i + 1);
        }
        CHECK.due("key -1", p.key(-1), Check.NOTHING);
        CHECK.due("key 6", p.key(6), Check.NOTHING);
        CHECK.due("key far off", p.key(Integer.MAX_VALUE), Check.NOTHING);
        CHECK.due("key far off", p.key(Integer.MIN_VALUE), Check.NOTHING);
        CHECK.due("count of a gone one", p.count(0), 0);
        CHECK.due("count of none", p.count(11), 0);
        CHECK.due("count of no number", p.count(Integer.MIN_VALUE), 0);
        CHECK.due("rank of the least int", p.rank(Integer.MIN_VALUE), 0);
        CHECK.due("rank of the greatest int", p.rank(Integer.MAX_VALUE), 6);
        range(p);
        CHECK.finish();
    }

    private static void range(GuessedPlace p) {
        CHECK.due("keys", p.range(-20, 40, 0), 3);
        CHECK.due("counts", p.range(-20, 40, 1), 7);
        CHECK.due("keys times counts", p.range(-20, 40, 2), -60 + 20 + 80);
        CHECK.due("all keys", p.range(Integer.MIN_VALUE, Integer.MAX_VALUE, 0), 6);
        CHECK.due("all counts", p.range(Integer.MIN_VALUE, Integer.MAX_VALUE, 1), 206);
        CHECK.due("more than an int", p.range(41, Integer.MAX_VALUE, 2), 50 + 99L * 999999999);
        CHECK.due("less than an int", p.range(Integer.MIN_VALUE, -21, 2), -99L * 999999999);
        CHECK.due("one", p.range(10, 10, 1), 2);
        CHECK.due("between", p.range(11, 39, 0), 0);
        CHECK.due("a gone one", p.range(0, 0, 0), 0);
        CHECK.due("b below a", p.range(40, -20, 0), 0);
        CHECK.due("b below a", p.range(Integer.MAX_VALUE, Integer.MIN_VALUE, 2), 0);
        CHECK.due("what 3", p.range(-20, 40, 3), -1);
        CHECK.due("what -1", p.range(-20, 40, -1), -1);
    }
}
