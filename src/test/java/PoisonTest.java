/** Promise 24: poison. */
public final class PoisonTest {
    private static final Check CHECK = new Check("PoisonTest");

    public static void main(String[] args) {
        GuessedPlace none = new GuessedPlace();
        poison(none, Check.NOTHING, 0);
        CHECK.due("what 2", none.poison(2), -1);
        CHECK.due("what -1", none.poison(-1), -1);
        GuessedPlace one = new GuessedPlace();
        one.insert(5);
        poison(one, 4, 1);
        atTheEnds();
        // Slack 0, 0 10 20 30: -1, 1, 9 make two pieces (0 9 | 10 20 30), 11 makes three (0 10 | 11 20 | 30).
        GuessedPlace p = new GuessedPlace();
        Check.tell(p, "slack 0;run 0 4 10;");
        poison(p, 11, 3);
        CHECK.due("no key by that", p.look(0), 4);
        CHECK.due("pieces as they were", p.look(10), 1);
        // Waiting ones count, gone ones do not: 0 10 20 with 9 is 0 9 | 10 20, with -1 it is -1 0 | 10 20: the least.
        p.remove(30);
        poison(p, -1, 2);
        p.insert(30);
        p.remove(0);
        p.insert(40);
        poison(p, 21, 3);
        full();
        CHECK.finish();
    }

    private static void poison(GuessedPlace p, int number, int pieces) {
        CHECK.due("the number", p.poison(0), number);
        CHECK.due("pieces then", p.poison(1), pieces);
    }

    private static void atTheEnds() {
        GuessedPlace p = new GuessedPlace();
        p.insert(-999999999);
        poison(p, -999999998, 1);
        GuessedPlace q = new GuessedPlace();
        q.insert(999999999);
        poison(q, 999999998, 1);
        GuessedPlace two = new GuessedPlace();
        two.insert(3);
        two.insert(4);
        poison(two, 2, 1);
    }

    private static void full() {
        GuessedPlace p = new GuessedPlace();
        Check.tell(p, "slack 0;run 0 99 2;run 198 99 2;run 396 99 2;run 594 3 2;");
        CHECK.due("300 keys in one piece", p.look(10), 1);
        // -1: -1 0 | 2 4 .. is two. 1: 0 1 2 | 4 .. is two. 3: 0 2 | 3 4 | 6 .. is three.
        poison(p, 3, 3);
    }
}
