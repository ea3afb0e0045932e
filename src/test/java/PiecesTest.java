/** Promises 15 to 20: piece, guess, seek, pages, errors, bestSlack. */
public final class PiecesTest {
    private static final Check CHECK = new Check("PiecesTest");

    public static void main(String[] args) {
        exactPieces();
        slackPieces();
        lowestLine();
        wideKeys();
        goneOnesStand();
        seek();
        levels();
        pages();
        errors();
        bestSlack();
        CHECK.finish();
    }

    private static void piece(GuessedPlace p, int level, int i, int... want) {
        for (int what = 0; what < 5; what++) {
            CHECK.due("piece " + level + " " + i + " " + what, p.piece(level, i, what), want[what]);
        }
    }

    private static GuessedPlace told(String text) {
        GuessedPlace p = new GuessedPlace();
        CHECK.due("text " + text, Check.tell(p, text) >= 0, true);
        return p;
    }

    private static void exactPieces() {
        GuessedPlace p = told("slack 0;upper 0;key 0;key 3;key 6;key 10;key 14;key 15;");
        CHECK.due("three pieces", p.look(10), 3);
        piece(p, 0, 0, 0, 2, 1, 3, 0);
        piece(p, 0, 1, 3, 4, 1, 4, 10);
        piece(p, 0, 2, 5, 5, 0, 1, 15);
        piece(p, 1, 0, 0, 1, 1, 10, 0);
        piece(p, 1, 1, 2, 2, 0, 1, 15);
        piece(p, 2, 0, 0, 1, 1, 15, 0);
        CHECK.due("three levels", p.look(4), 3);
        CHECK.due("no piece 3", p.piece(0, 3, 0), Check.NOTHING);
        CHECK.due("no piece -1", p.piece(0, -1, 0), Check.NOTHING);
        CHECK.due("no level 3", p.piece(3, 0, 0), Check.NOTHING);
        CHECK.due("no level -1", p.piece(-1, 0, 0), Check.NOTHING);
        CHECK.due("what 5", p.piece(0, 0, 5), Check.NOTHING);
        CHECK.due("what -1", p.piece(0, 0, -1), Check.NOTHING);
        CHECK.due("guess within", p.guess(0, 1, 13), 3);
        CHECK.due("guess at the last", p.guess(0, 1, 14), 4);
        CHECK.due("guess behind", p.guess(0, 1, 1000), 5);
        CHECK.due("guess ahead", p.guess(0, 1, -3), 0);
        CHECK.due("guess downwards", p.guess(0, 1, 9), 2);
        CHECK.due("one place alone", p.guess(0, 2, -99), 5);
        CHECK.due("far behind", p.guess(0, 0, Integer.MAX_VALUE), 3);
        CHECK.due("far ahead", p.guess(0, 0, Integer.MIN_VALUE), 0);
        CHECK.due("no such piece", p.guess(0, 3, 0), -1);
        CHECK.due("no such level", p.guess(3, 0, 0), -1);
        CHECK.due("no such level", p.guess(Integer.MIN_VALUE, 0, 0), -1);
    }

    private static void slackPieces() {
        // With slack 1 the five places 0 .. 4 at 0, 10, .., 40 want 2 / 40 at least, for 4 less 2 is 2.
        GuessedPlace p = told("run 0 5 10;");
        piece(p, 0, 0, 0, 4, 1, 20, 0);
        // The line is the lowest: at 40 it is 3, at 0 it is 1.
        CHECK.due("guess 0", p.guess(0, 0, 0), 1);
        CHECK.due("guess 19", p.guess(0, 0, 19), 1);
        CHECK.due("guess 20", p.guess(0, 0, 20), 2);
        CHECK.due("guess 40", p.guess(0, 0, 40), 3);
        CHECK.due("guess 79", p.guess(0, 0, 79), 4);
        CHECK.due("guess 80", p.guess(0, 0, 80), 5);
        CHECK.due("guess 81", p.guess(0, 0, 100), 5);
        CHECK.due("guess -20", p.guess(0, 0, -20), 0);
        GuessedPlace flat = told("run 0 5 10;slack 2;");
        piece(flat, 0, 0, 0, 4, 0, 1, 0);
        CHECK.due("a flat line as low as can be", flat.guess(0, 0, 0), 2);
        GuessedPlace one = told("key 7;");
        piece(one, 0, 0, 0, 0, 0, 1, 7);
        CHECK.due("one key, slack 1", one.guess(0, 0, 7), 0);
        CHECK.due("one level", one.look(4), 1);
    }

    private static void lowestLine() {
        // Slack 1, keys 0, 1, 2, 3, 100: 3 less 2 over 3 wants 1 / 3; then 100 can't be below 4 + 1.
        GuessedPlace p = told("run 0 4 1;key 100;");
        piece(p, 0, 0, 0, 3, 1, 3, 0);
        piece(p, 0, 1, 4, 4, 0, 1, 100);
        CHECK.due("the lowest line at 0 is 1", p.guess(0, 0, 0), 1);
        CHECK.due("at 2 downwards", p.guess(0, 0, 2), 1);
        CHECK.due("at 3", p.guess(0, 0, 3), 2);
        CHECK.due("a place alone less slack", p.guess(0, 1, 100), 3);
        // Level 1 with upper 1 has the keys 0 and 100: flat, and the lowest is 0.
        piece(p, 1, 0, 0, 1, 0, 1, 0);
        CHECK.due("level 1", p.guess(1, 0, 100), 0);
    }

    private static void wideKeys() {
        GuessedPlace p = told("slack 0;key -999999999;key 999999999;");
        piece(p, 0, 0, 0, 1, 1, 1999999998, -999999999);
        CHECK.due("just below", p.guess(0, 0, 999999998), 0);
        CHECK.due("at", p.guess(0, 0, 999999999), 1);
        CHECK.due("beyond", p.guess(0, 0, Integer.MAX_VALUE), 1);
        CHECK.due("below", p.guess(0, 0, Integer.MIN_VALUE), 0);
        GuessedPlace q = told("slack 0;key -999999999;key 0;key 999999999;");
        piece(q, 0, 0, 0, 2, 1, 999999999, -999999999);
    }

    private static void goneOnesStand() {
        GuessedPlace p = told("slack 0;run 0 5 10;");
        p.remove(20);
        piece(p, 0, 0, 0, 4, 1, 10, 0);
        CHECK.due("seek counts it", p.seek(30, 0), 3);
        CHECK.due("rank does not", p.rank(30), 2);
        p.insert(5);
        CHECK.due("seek counts no waiting one", p.seek(30, 0), 3);
        p.build();
        CHECK.due("then all are built anew: 0, 5, 10 and 30, 40", p.look(10), 2);
    }

    private static void seek() {
        GuessedPlace p = told("slack 0;upper 0;key 0;key 3;key 6;key 10;key 14;key 15;");
        int[] xs = {-5, 0, 1, 3, 4, 6, 9, 10, 12, 14, 15, 16};
        int[] places = {0, 0, 1, 1, 2, 2, 3, 3, 4, 4, 5, 6};
        for (int i = 0; i < xs.length; i++) {
            CHECK.due("seek " + xs[i], p.seek(xs[i], 0), places[i]);
        }
        // Level 2, guess 0: low 0, high 2: 15 > 5, 0 <= 5: 2. Level 1, guess 0: low 0, high 2: 2.
        // Level 0, guess 5 / 3 = 1: low 0, high 3: 3 < 5, 6 not: 2.
        CHECK.due("compared", p.seek(5, 1), 6);
        CHECK.due("plain: 10, 3, 6", p.seek(5, 2), 3);
        CHECK.due("plain: 10, 15, 14", p.seek(15, 2), 3);
        CHECK.due("what 3", p.seek(5, 3), -1);
        CHECK.due("what -1", p.seek(5, -1), -1);
        CHECK.due("greatest int", p.seek(Integer.MAX_VALUE, 0), 6);
        CHECK.due("least int", p.seek(Integer.MIN_VALUE, 0), 0);
    }

    private static void levels() {
        // 300 keys of which no three lie in line: the gaps grow, so that every piece has two places.
        GuessedPlace p = new GuessedPlace();
        p.set(0, 0);
        p.set(1, 0);
        p.set(2, 50);
        int x = -999999999;
        for (int i = 0; i < 300; i++) {
            p.insert(x);
            x += 1 + i * i;
        }
        p.build();
        int[] pieces = {150, 75, 38, 19, 10, 5, 3, 2, 1};
        CHECK.due("levels", p.look(4), pieces.length);
        for (int l = 0; l < pieces.length; l++) {
            CHECK.due("pieces of level " + l, p.look(10 + l), pieces[l]);
        }
        CHECK.due("no level 9", p.look(19), -1);
        for (int i = 0; i < 300; i += 7) {
            CHECK.due("seek " + i, p.seek(p.key(i), 0), i);
            CHECK.due("seek behind " + i, p.seek(p.key(i) + 1, 0), i + 1);
        }
        CHECK.due("no error without slack", p.errors(0, 1), 0);
        Check.tell(p, "slack 20;upper 20;");
        int left = p.look(4);
        CHECK.due("fewer levels", left < 9, true);
        CHECK.due("none above", p.piece(left, 0, 0), Check.NOTHING);
        CHECK.due("none above", p.guess(left, 0, 0), -1);
        CHECK.due("none above", p.errors(left, 0), -1);
        CHECK.due("none above", p.look(10 + left), -1);
    }

    private static void pages() {
        // Guesses 1, 1, 2, 2, 3 (see slackPieces): with slack 1 places 0-2, 0-2, 1-3, 1-3, 2-4; one level.
        GuessedPlace p = told("run 0 5 10;");
        CHECK.due("one page each", p.pages(0), 10);
        p.set(3, 1);
        CHECK.due("pages of 1", p.pages(0), 20);
        p.set(3, 2);
        CHECK.due("pages of 2", p.pages(0), 15);
        p.set(3, 3);
        CHECK.due("pages of 3", p.pages(0), 5 + 1 + 1 + 2 + 2 + 2);
        CHECK.due("8 to the 1", p.pages(1), 10);
        p.set(4, 5);
        CHECK.due("5 to the 1 is enough", p.pages(1), 10);
        p.set(4, 4);
        CHECK.due("4 to the 2", p.pages(1), 15);
        p.set(4, 2);
        CHECK.due("2 to the 3", p.pages(1), 20);
        p.remove(20);
        CHECK.due("gone ones, too", p.pages(1), 20);
        CHECK.due("what 2", p.pages(2), -1);
        CHECK.due("what -1", p.pages(-1), -1);
        // The line goes above the last place: 7 / 9 through (9, 8) is 12 at 15, whose place is the last, 12.
        GuessedPlace above = told("run 0 10 1;key 11;key 13;key 15;");
        above.set(3, 13);
        CHECK.due("one piece", above.look(10), 1);
        CHECK.due("guess of the last", above.guess(0, 0, 15), 12);
        CHECK.due("no page behind the last place", above.pages(0), 26);
        GuessedPlace one = told("key 7;");
        CHECK.due("one key needs no height", one.pages(1), 1);
        CHECK.due("one key", one.pages(0), 2);
    }

    private static void errors() {
        // Guesses 1, 1, 2, 2, 3 at places 0 .. 4.
        GuessedPlace p = told("run 0 5 10;");
        CHECK.due("greatest", p.errors(0, 0), 1);
        CHECK.due("all", p.errors(0, 1), 3);
        CHECK.due("first", p.errors(0, 2), 0);
        CHECK.due("what 3", p.errors(0, 3), -1);
        CHECK.due("what -1", p.errors(0, -1), -1);
        CHECK.due("level 1", p.errors(1, 0), -1);
        CHECK.due("level -1", p.errors(-1, 0), -1);
        GuessedPlace q = told("run 0 4 1;key 100;");
        // Guesses 1, 1, 1, 2 and 3 at places 0 .. 4.
        CHECK.due("all of two pieces", q.errors(0, 1), 1 + 0 + 1 + 1 + 1);
        CHECK.due("level 1: guesses 0, 0", q.errors(1, 1), 1);
        CHECK.due("its place", q.errors(1, 2), 1);
    }

    private static void bestSlack() {
        GuessedPlace p = told("slack 5;run 0 5 10;");
        // A straight run is guessed best without slack: the windows are the least, and there is one piece anyway.
        CHECK.due("slack", p.bestSlack(0), 0);
        CHECK.due("how many", p.bestSlack(1), sumOfSeeks(0) + 1);
        CHECK.due("the slack is as it was", p.look(20), 5);
        CHECK.due("pieces are as they were", p.piece(0, 0, 2), 0);
        CHECK.due("what 2", p.bestSlack(2), -1);
        CHECK.due("what -1", p.bestSlack(-1), -1);
        GuessedPlace most = told("upper 0;run 1 40 1;run 1040 40 1000;run 40041 40 1;run 41080 3 1000;");
        CHECK.due("the greatest slack is tried, too", most.bestSlack(0), 20);
        CHECK.due("one piece, and 681 compared", most.bestSlack(1), 682);
        GuessedPlace none = new GuessedPlace();
        none.insert(5);
        CHECK.due("without a row", none.bestSlack(0), 0);
        CHECK.due("without a row", none.bestSlack(1), 0);
    }

    private static int sumOfSeeks(int slack) {
        GuessedPlace p = told("run 0 5 10;slack " + slack + ";");
        int sum = 0;
        for (int i = 0; i < 5; i++) {
            sum += p.seek(10 * i, 1);
        }
        return sum;
    }
}
