/** Promises 25 and 26: passes, falses. */
public final class FilterTest {
    private static final Check CHECK = new Check("FilterTest");

    public static void main(String[] args) {
        plain();
        neverMisses();
        learnt();
        falses();
        CHECK.finish();
    }

    /** Hash h of x, reckoned by remainders small enough for any order of steps. */
    private static int hash(long x, int h, int bits) {
        long n = ((x + 1000000000) % 2147483647) * (40503 + 2 * h) % 2147483647 + 977 * h;
        return (int) (n % 2147483647 % bits);
    }

    private static void plain() {
        GuessedPlace p = new GuessedPlace();
        CHECK.due("no keys", p.passes(0, false), false);
        p.insert(1);
        for (int hashes = 1; hashes <= 4; hashes++) {
            p.set(6, hashes);
            for (int bits = 8; bits <= 512; bits += 7) {
                p.set(5, bits);
                boolean[] marks = new boolean[bits];
                for (int h = 0; h < hashes; h++) {
                    marks[hash(1, h, bits)] = true;
                }
                for (int x = -3; x < 3; x++) {
                    boolean want = true;
                    for (int h = 0; h < hashes; h++) {
                        want &= marks[hash(x, h, bits)];
                    }
                    CHECK.due("passes " + x + " by " + hashes + " of " + bits, p.passes(x, false), want);
                }
            }
        }
        p.set(5, 8);
        Check.tell(p, "run 0 99 1;");
        CHECK.due("all bits are set", p.passes(-999999999, false), true);
        CHECK.due("greatest", p.passes(999999999, false), true);
        CHECK.due("can be no key", p.passes(1000000000, false), false);
        CHECK.due("can be no key", p.passes(-1000000000, true), false);
        CHECK.due("can be no key", p.passes(Integer.MIN_VALUE, false), false);
        CHECK.due("can be no key", p.passes(Integer.MAX_VALUE, true), false);
    }

    private static void neverMisses() {
        GuessedPlace p = new GuessedPlace();
        Check.tell(p, "run -500 99 7;run 5000 50 99999;key 999999999;key -999999999;");
        p.set(7, 7);
        for (int i = 0; i < p.look(0); i++) {
            CHECK.due("plain " + i, p.passes(p.key(i), false), true);
            CHECK.due("learnt " + i, p.passes(p.key(i), true), true);
        }
        // One key alone in many bits: a waiting one is set, a gone one is not.
        GuessedPlace q = new GuessedPlace();
        q.set(5, 512);
        q.set(6, 4);
        q.insert(77);
        CHECK.due("a waiting one", q.passes(77, false), true);
        q.build();
        q.remove(77);
        CHECK.due("a gone one", q.passes(77, false), false);
    }

    private static void learnt() {
        GuessedPlace p = new GuessedPlace();
        p.set(5, 512);
        p.set(6, 4);
        Check.tell(p, "key 10;key 15;key 20;key 26;key 100;");
        CHECK.due("width 0: no spans", p.passes(12, true), false);
        p.set(7, 5);
        int[] in = {10, 11, 14, 15, 16, 19, 20, 26, 100};
        for (int x : in) {
            CHECK.due("passes " + x, p.passes(x, true), true);
        }
        int[] out = {9, 21, 25, 27, 99};
        for (int x : out) {
            CHECK.due("passes " + x, p.passes(x, true), false);
        }
        CHECK.due("the plain one knows no spans", p.passes(12, false), false);
        p.set(7, 6);
        CHECK.due("26 is in the span then", p.passes(25, true), true);
        p.set(7, 99999);
        CHECK.due("all are one span", p.passes(60, true), true);
        p.remove(15);
        p.set(7, 5);
        CHECK.due("a gone one joins nothing", p.passes(11, true), false);
        // In a span keys set no bits: with 8 bits and one other key few of the numbers pass.
        GuessedPlace q = new GuessedPlace();
        Check.tell(q, "run 0 99 1;key 5000;");
        q.set(5, 8);
        q.set(6, 1);
        q.set(7, 1);
        CHECK.due("all pass the plain one", q.falses(200, 999, false), 800);
        int want = 0;
        for (int x = 200; x < 1000; x++) {
            want += hash(x, 0, 8) == hash(5000, 0, 8) ? 1 : 0;
        }
        CHECK.due("few pass the learnt one", q.falses(200, 999, true), want);
    }

    private static void falses() {
        GuessedPlace p = new GuessedPlace();
        CHECK.due("no keys", p.falses(0, 4999, false), 0);
        Check.tell(p, "run 0 99 1;");
        p.set(5, 8);
        CHECK.due("5000 of them", p.falses(0, 4999, false), 4901);
        CHECK.due("5001 of them", p.falses(0, 5000, false), -1);
        CHECK.due("one that is a key", p.falses(5, 5, false), 0);
        CHECK.due("one that is none", p.falses(-1, -1, false), 1);
        CHECK.due("b below a", p.falses(5, 4, true), -1);
        CHECK.due("far apart", p.falses(Integer.MIN_VALUE, Integer.MAX_VALUE, true), -1);
        CHECK.due("far apart, b below a", p.falses(Integer.MAX_VALUE, Integer.MIN_VALUE, true), -1);
        CHECK.due("beyond all keys", p.falses(999999998, 1000000003, false), 2);
        CHECK.due("below all keys", p.falses(-1000000003, -999999998, false), 2);
        CHECK.due("the last ints", p.falses(Integer.MAX_VALUE - 9, Integer.MAX_VALUE, false), 0);
        CHECK.due("the first ints", p.falses(Integer.MIN_VALUE, Integer.MIN_VALUE + 9, true), 0);
    }
}
