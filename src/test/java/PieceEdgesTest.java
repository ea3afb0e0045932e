/** Boundary cases of Term 3, of ERRORS and BEST SLACK in Term 4 and of promises 15 to 20: pieces, levels, searches. */
public final class PieceEdgesTest {
    private static final Edges EDGES = new Edges("PieceEdgesTest");
    // With slack 1 the first four places want a slope of 1 / 3 at least, by which 12 is as far as the fifth can be.
    private static final String DENSE_FIRST = "run 0 4 1;key 12;";
    // With slack 1 the first four places want a slope of 1 / 6 at most, by which 36 is as near as the last can be.
    private static final String SPARSE_FIRST = "run 0 4 10;key 31;key 32;key 36;";
    private static final String TWO_PIECES = "slack 0;upper 0;key 0;key 1;key 10;key 11;";

    public static void main(String[] args) {
        quotients();
        withinSlack();
        goneOnesToo();
        asLongAsCanBe();
        slope();
        lowestTerms();
        lowestLine();
        guessBounds();
        levels();
        noLevel();
        howManyAreLess();
        firstPieceIfNone();
        window();
        allLevels();
        plainSearch();
        pageBounds();
        treeHeight();
        pagesOfGone();
        errors();
        bestSlack();
        bestSlackOfSeveral();
        bestSlackOfNone();
        pieceRefused();
        guessRefused();
        seekRefused();
        pagesRefused();
        errorsRefused();
        bestSlackRefused();
        EDGES.finish();
    }

    private static void pieces(String text, int want) {
        EDGES.due("pieces of " + text, Edges.with(text).look(10), want);
    }

    private static void piece(GuessedPlace p, int level, int i, int... want) {
        for (int what = 0; what < want.length; what++) {
            EDGES.due("piece " + level + " " + i + " " + what, p.piece(level, i, what), want[what]);
        }
    }

    private static void guesses(GuessedPlace p, int i, int[] xs, int[] want) {
        for (int k = 0; k < xs.length; k++) {
            EDGES.due("guess of " + xs[k] + " by piece " + i, p.guess(0, i, xs[k]), want[k]);
        }
    }

    private static void quotients() {
        EDGES.sentence("Terms", "Quotients go downwards (to the lesser one).");
        // The second piece is (x - 70) / 10: 29 / 10 is 2, -1 / 10 is below 0.
        GuessedPlace p = Edges.with("slack 0;run 0 3 1;run 100 3 10;");
        guesses(p, 1, new int[] {69, 71, 99, 129}, new int[] {0, 0, 2, 5});
        // Of negative keys, too: (x + 130) / 10 less 0 is 2.9 at -101.
        GuessedPlace negative = Edges.with("slack 0;run -130 9 10;");
        guesses(negative, 0, new int[] {-131, -130, -121, -120, -101}, new int[] {0, 0, 0, 1, 2});
        negative.lay();
        EDGES.due("64 by 9 is 7", negative.cell(7), -120);
        EDGES.due("512 by 9 is 56", negative.cell(56), -50);
        GuessedPlace empty = new GuessedPlace();
        empty.put(5);
        EDGES.due("(-1 + 64) by 2 is 31", empty.cell(31), 5);
        empty.put(4);
        empty.put(3);
        empty.put(2);
        empty.put(1);
        EDGES.due("(-1 + 3) by 2 is 1", empty.cell(1), 1);
    }

    private static void withinSlack() {
        EDGES.sentence("Term 3", "there is a straight line f with i' - E <= f(x) <= i' + E for all places i' of it");
        pieces(DENSE_FIRST, 1);
        pieces("run 0 4 1;key 13;", 2);
        pieces(SPARSE_FIRST, 1);
        pieces("run 0 4 10;key 31;key 32;key 35;", 2);
        pieces("slack 0;run 0 3 10;", 1);
        pieces("slack 0;key 0;key 10;key 21;", 2);
        pieces("slack 0;key 0;key 10;key 19;", 2);
        pieces("slack 0;key -999999999;key 0;key 999999999;", 1);
        pieces("slack 0;key -999999999;key 1;key 999999999;", 2);
        pieces("slack 0;key -999999999;key -1;key 999999999;", 2);
        // With slack 20 the first 41 places want no slope at all, the first 42 want 1 / 41: the last is too far for that.
        pieces("slack 20;run 0 41 1;key 999999999;", 1);
        pieces("slack 20;run 0 42 1;key 999999999;", 2);
    }

    private static void goneOnesToo() {
        EDGES.sentence("Term 3", "(x the key there, GONE ones, too)");
        GuessedPlace p = Edges.with("slack 0;run 0 3 10;key 21;key 31;key 41;");
        EDGES.due("0 10 20 and 21 31 41", p.look(10), 2);
        for (int x : new int[] {0, 10, 20, 31, 41}) {
            p.remove(x);
        }
        EDGES.due("as they were", p.look(10), 2);
        piece(p, 0, 0, 0, 2, 1, 10, 0);
        piece(p, 0, 1, 3, 5, 1, 10, 21);
        p.build();
        EDGES.due("21 alone", p.look(10), 1);
        piece(p, 0, 0, 0, 0, 0, 1, 21);
    }

    private static void asLongAsCanBe() {
        EDGES.sentence("Term 3", "PIECES: the first from place 0 on as long as can be, then likewise: no fewer can be.");
        GuessedPlace p = Edges.with("slack 0;key 0;key 10;key 20;key 21;key 22;key 32;key 42;key 43;");
        int[][] want = {{0, 2, 1, 10, 0}, {3, 4, 1, 1, 21}, {5, 6, 1, 10, 32}, {7, 7, 0, 1, 43}};
        EDGES.due("pieces", p.look(10), want.length);
        for (int i = 0; i < want.length; i++) {
            piece(p, 0, i, want[i]);
        }
        GuessedPlace one = Edges.with("key 5;");
        EDGES.due("one place", one.look(10), 1);
        piece(one, 0, 0, 0, 0, 0, 1, 5);
        GuessedPlace full = Edges.full();
        full.set(0, 0);
        EDGES.due("300 places: three runs and the rest", full.look(10), 4);
        piece(full, 0, 3, 297, 299, 1, 1, 301);
    }

    private static void slope() {
        EDGES.sentence("Term 3", "Its SLOPE is the least that can be, 0 at least (0 for one place alone)");
        piece(Edges.with("key -7;"), 0, 0, 0, 0, 0, 1, -7);
        piece(Edges.with("slack 20;key -7;"), 0, 0, 0, 0, 0, 1, -7);
        piece(Edges.with("run 0 3 10;"), 0, 0, 0, 2, 0, 1, 0);
        piece(Edges.with("run 0 4 10;"), 0, 0, 0, 3, 1, 30, 0);
        piece(Edges.with("slack 20;run 0 41 1;"), 0, 0, 0, 40, 0, 1, 0);
        piece(Edges.with("slack 20;run 0 42 1;"), 0, 0, 0, 41, 1, 41, 0);
        piece(Edges.with("slack 0;key 5;key 6;"), 0, 0, 0, 1, 1, 1, 5);
        piece(Edges.with("slack 0;key -999999999;key 999999999;"), 0, 0, 0, 1, 1, 1999999998, -999999999);
        piece(Edges.with(DENSE_FIRST), 0, 0, 0, 4, 1, 3, 0);
        piece(Edges.with(SPARSE_FIRST), 0, 0, 0, 6, 1, 6, 0);
    }

    private static void lowestTerms() {
        EDGES.sentence("Term 3", "as a fraction in lowest terms p / q");
        // With slack 1 the last of n places is n - 3 above the first at least.
        piece(Edges.with("run 0 5 10;"), 0, 0, 0, 4, 1, 20, 0);
        piece(Edges.with("run 0 6 10;"), 0, 0, 0, 5, 3, 50, 0);
        piece(Edges.with("run 0 7 15;"), 0, 0, 0, 6, 2, 45, 0);
        piece(Edges.with("run 0 99 1;"), 0, 0, 0, 98, 48, 49, 0);
        piece(Edges.with("run -999999999 99 99999;"), 0, 0, 0, 98, 16, 1633317, -999999999);
    }

    private static void lowestLine() {
        EDGES.sentence("Term 3", "its line is the lowest with that SLOPE.");
        guesses(Edges.with("run 0 3 10;"), 0, new int[] {0, 10, 20}, new int[] {1, 1, 1});
        guesses(Edges.with("key 0;key 10;"), 0, new int[] {0, 10}, new int[] {0, 0});
        guesses(Edges.with("slack 20;run 0 41 1;"), 0, new int[] {0, 40}, new int[] {20, 20});
        guesses(Edges.with("slack 20;run 0 20 1;"), 0, new int[] {0, 19}, new int[] {0, 0});
        // 1 + x / 3, as low at 3 as it can be, and as high at 0 and 12.
        guesses(Edges.with(DENSE_FIRST), 0, new int[] {0, 1, 2, 3, 5, 6, 11, 12}, new int[] {1, 1, 1, 2, 2, 3, 4, 5});
        GuessedPlace alone = Edges.with("slack 0;key 0;key 1;key 50;");
        guesses(alone, 1, new int[] {-999999999, 50, 999999999}, new int[] {2, 2, 2});
        GuessedPlace below = Edges.with("run 0 4 1;key 13;");
        guesses(below, 1, new int[] {-999999999, 13, 999999999}, new int[] {3, 3, 3});
    }

    private static void guessBounds() {
        EDGES.sentence("Term 3", "f(x) downwards, 0 at least, the place behind the PIECE's last at most.");
        // x / 6 - 1, of places 0 to 6.
        int[] xs = {Edges.LEAST_INT, -999999999, 0, 5, 6, 11, 12, 17, 18, 35, 36, 47, 48, 53, 54, 999999999,
            Edges.MOST_INT};
        int[] want = {0, 0, 0, 0, 0, 0, 1, 1, 2, 4, 5, 6, 7, 7, 7, 7, 7};
        guesses(Edges.with(SPARSE_FIRST), 0, xs, want);
        // The second piece begins at place 3 with 100, and is left below it, but not below 0: (x - 70) / 10.
        GuessedPlace p = Edges.with("slack 0;run 0 3 1;run 100 3 10;");
        int[] ys = {Edges.LEAST_INT, 69, 70, 79, 80, 99, 100, 119, 120, 129, 130, 131, Edges.MOST_INT};
        guesses(p, 1, ys, new int[] {0, 0, 0, 0, 1, 2, 3, 4, 5, 5, 6, 6, 6});
        guesses(p, 0, new int[] {-1, 0, 2, 3, 4, 100}, new int[] {0, 0, 2, 3, 3, 3});
        GuessedPlace wide = Edges.with("slack 0;key -999999999;key 999999999;");
        guesses(wide, 0, new int[] {Edges.LEAST_INT, -999999999, 999999998, 999999999, Edges.MOST_INT},
            new int[] {0, 0, 0, 1, 1});
    }

    private static void levels() {
        EDGES.sentence("Term 3", "if a level has more than one PIECE, there is one above it: PIECES of that row with"
            + " UPPER.");
        String four = "slack 0;key 0;key 1;key 10;key 11;key 30;key 31;key 60;key 61;";
        GuessedPlace none = Edges.with("slack 0;run 0 9 1;");
        EDGES.due("one piece, one level", none.look(4), 1);
        EDGES.due("none above", none.look(11), -1);
        GuessedPlace exact = Edges.with(four + "upper 0;");
        EDGES.due("levels by upper 0", exact.look(4), 3);
        int[] many = {4, 2, 1, -1};
        for (int l = 0; l < many.length; l++) {
            EDGES.due("pieces of level " + l, exact.look(10 + l), many[l]);
        }
        piece(exact, 1, 0, 0, 1, 1, 10, 0);
        piece(exact, 1, 1, 2, 3, 1, 30, 30);
        piece(exact, 2, 0, 0, 1, 1, 30, 0);
        GuessedPlace loose = Edges.with(four + "upper 1;");
        EDGES.due("levels by upper 1", loose.look(4), 2);
        piece(loose, 1, 0, 0, 3, 1, 60, 0);
        GuessedPlace two = Edges.with(TWO_PIECES);
        EDGES.due("two pieces, two levels", two.look(4), 2);
        piece(two, 1, 0, 0, 1, 1, 10, 0);
        mostLevels();
    }

    /** The gaps grow, so that without slack no three of the 300 keys lie in line, nor of any row above. */
    private static void mostLevels() {
        GuessedPlace p = new GuessedPlace();
        p.set(2, 50);
        int x = -999999999;
        for (int i = 0; i < 300; i++) {
            p.insert(x);
            x += 1 + i * i;
        }
        p.set(1, 0);
        p.set(0, 0);
        int[] many = {150, 75, 38, 19, 10, 5, 3, 2, 1, -1};
        EDGES.due("nine levels", p.look(4), 9);
        for (int l = 0; l < many.length; l++) {
            EDGES.due("pieces of level " + l, p.look(10 + l), many[l]);
        }
        EDGES.due("the first key of the highest", p.piece(8, 0, 4), -999999999);
        EDGES.due("the last place of the highest", p.piece(8, 0, 1), 1);
        EDGES.due("the last is found", p.seek(p.key(299), 0), 299);
        EDGES.due("and what is behind it", p.seek(Edges.MOST_INT, 0), 300);
    }

    private static void noLevel() {
        EDGES.sentence("Term 3", "(No level without a row.)");
        GuessedPlace empty = new GuessedPlace();
        GuessedPlace waits = Edges.withKeys(1, 2, 3);
        GuessedPlace dropped = Edges.with("run 1 9 1;");
        Check.tell(dropped, "drop 1;drop 2;drop 3;drop 4;drop 5;drop 6;drop 7;drop 8;drop 9;");
        for (GuessedPlace p : new GuessedPlace[] {empty, waits, dropped}) {
            EDGES.due("levels", p.look(4), 0);
            EDGES.due("pieces", p.look(10), -1);
            EDGES.due("piece", p.piece(0, 0, 0), Check.NOTHING);
            EDGES.due("guess", p.guess(0, 0, 1), -1);
            EDGES.due("errors", p.errors(0, 0), -1);
            EDGES.due("seek", p.seek(2, 0), 0);
            EDGES.due("compared", p.seek(2, 1), 0);
            EDGES.due("compared plainly", p.seek(2, 2), 0);
            EDGES.due("pages", p.pages(0), 0);
            EDGES.due("of a tree", p.pages(1), 0);
        }
    }

    private static void howManyAreLess() {
        EDGES.sentence("Term 3", "SEEK x: the place where x would stand: how many in the ROW are less.");
        GuessedPlace p = Edges.with("slack 0;upper 0;key -999999999;key 0;key 1;key 2;key 50;key 999999999;");
        p.remove(1);
        p.insert(3);
        int[] xs = {Edges.LEAST_INT, -1000000000, -999999999, -999999998, 0, 1, 2, 3, 50, 51, 999999999, 1000000000,
            Edges.MOST_INT};
        int[] want = {0, 0, 0, 1, 1, 2, 3, 4, 4, 5, 5, 6, 6};
        for (int i = 0; i < xs.length; i++) {
            EDGES.due("seek " + xs[i], p.seek(xs[i], 0), want[i]);
        }
    }

    private static void firstPieceIfNone() {
        EDGES.sentence("Term 3", "in which the last first key not above x lies (the first PIECE, if none)");
        // Level 1 holds 0 and 10: x / 10; the pieces under it are x of places 0, 1 and x - 8 of places 2, 3.
        GuessedPlace p = Edges.with(TWO_PIECES);
        int[] xs = {Edges.LEAST_INT, -5, -1, 0, 9, 10, 11, 100, Edges.MOST_INT};
        int[] places = {0, 0, 0, 0, 2, 2, 3, 4, 4};
        int[] compared = {4, 4, 4, 4, 4, 3, 3, 2, 2};
        for (int i = 0; i < xs.length; i++) {
            EDGES.due("seek " + xs[i], p.seek(xs[i], 0), places[i]);
            EDGES.due("compared for " + xs[i], p.seek(xs[i], 1), compared[i]);
        }
    }

    private static void window() {
        EDGES.sentence("Term 3", "At first low = max(0, g - s - 1), high = min(how many stand there, g + s + 2).");
        // Slack 0: x / 10. Of 100 it is low 9, high 12; of 0 low 0, high 2; of 190 low 18, high 20.
        GuessedPlace exact = Edges.with("slack 0;run 0 20 10;");
        int[] xs = {-10, 0, 5, 100, 105, 185, 190, 195, 199, 200, 999999999};
        int[] compared = {2, 2, 2, 2, 2, 2, 2, 1, 1, 1, 1};
        for (int i = 0; i < xs.length; i++) {
            EDGES.due("slack 0, compared for " + xs[i], exact.seek(xs[i], 1), compared[i]);
        }
        // Slack 3: 3 + 13 x / 190. Of 0 it is low 0, high 8; of 100 low 5, high 14; of 1000 low 16, high 20.
        GuessedPlace loose = Edges.with("slack 3;run 0 20 10;");
        int[] ys = {0, 100, 1000};
        int[] comparedFor = {4, 4, 2};
        for (int i = 0; i < ys.length; i++) {
            EDGES.due("slack 3, compared for " + ys[i], loose.seek(ys[i], 1), comparedFor[i]);
        }
        GuessedPlace one = Edges.with("key 5;");
        for (int x : new int[] {-9, 5, 9}) {
            EDGES.due("one place, compared for " + x, one.seek(x, 1), 1);
        }
    }

    private static void allLevels() {
        EDGES.sentence("Term 3", "COMPARED: of all levels together.");
        // Three levels of 4, 2 and 1 pieces; level 2 holds 0 and 30: x / 30. Of 31: level 2 guesses 1, 30 is not above
        // it: 1. Level 1, by (x - 30) / 30 and 2: low 1, high 4: 30 yes, 60 no: 2. Level 0, x - 26 is 5: 31, 30: 2.
        String four = "slack 0;upper 0;key 0;key 1;key 10;key 11;key 30;key 31;key 60;key 61;";
        EDGES.due("1 and 2 and 2", Edges.with(four).seek(31, 1), 5);
        EDGES.due("one level alone", Edges.with("slack 0;run 0 3 10;").seek(10, 1), 2);
        EDGES.due("asked twice", twice(Edges.with(four), 31), 5);
    }

    private static int twice(GuessedPlace p, int x) {
        p.seek(x, 1);
        p.seek(x, 0);
        p.bestSlack(1);
        return p.seek(x, 1);
    }

    private static void plainSearch() {
        EDGES.sentence("Term 3", "PLAIN: the same in the whole ROW at once (low 0, high all).");
        GuessedPlace p = Edges.with("run 0 20 10;");
        EDGES.due("0: 100 50 20 10 0", p.seek(0, 2), 5);
        EDGES.due("1000: 100 150 180 190", p.seek(1000, 2), 4);
        EDGES.due("100: 100 50 80 90", p.seek(100, 2), 4);
        EDGES.due("the least int", p.seek(Edges.LEAST_INT, 2), 5);
        EDGES.due("the greatest int", p.seek(Edges.MOST_INT, 2), 4);
        EDGES.due("one", Edges.with("key 5;").seek(5, 2), 1);
        EDGES.due("none", new GuessedPlace().seek(5, 2), 0);
        GuessedPlace full = Edges.full();
        EDGES.due("300, the least", full.seek(-1, 2), 9);
        EDGES.due("300, the most", full.seek(304, 2), 8);
    }

    private static void pageBounds() {
        EDGES.sentence("Term 3", "from the page of place max(0, g - E) to that of min(last place, g + E) (places by PAGE),"
            + " g its GUESS, and one for each level");
        // Guesses 0 0 2 4 4 4 5 of places 0 to 6: places 0-1 0-1 1-3 3-5 3-5 3-5 4-6.
        GuessedPlace low = Edges.with(SPARSE_FIRST);
        // Guesses 1 1 1 2 5 of places 0 to 4: places 0-2 0-2 0-2 1-3 4-4.
        GuessedPlace high = Edges.with(DENSE_FIRST);
        int[] page = {1, 2, 3, 4, 7, 99};
        int[] lowPages = {19 + 7, 12 + 7, 9 + 7, 10 + 7, 7 + 7, 7 + 7};
        int[] highPages = {13 + 5, 9 + 5, 6 + 5, 5 + 5, 5 + 5, 5 + 5};
        for (int i = 0; i < page.length; i++) {
            low.set(3, page[i]);
            high.set(3, page[i]);
            EDGES.due("pages of " + page[i], low.pages(0), lowPages[i]);
            EDGES.due("pages of " + page[i], high.pages(0), highPages[i]);
        }
        EDGES.due("8 at first", Edges.with("slack 0;run 0 9 1;").pages(0), 18);
        GuessedPlace two = Edges.with(TWO_PIECES);
        EDGES.due("one for each of two levels", two.pages(0), 12);
    }

    private static void treeHeight() {
        EDGES.sentence("Term 3", "TREE: the least h with ORDER to the h not below how many stand in the ROW, and 1.");
        int[][] want = {{2, 1, 1}, {2, 2, 4}, {2, 3, 9}, {2, 4, 12}, {2, 5, 20}, {2, 64, 448}, {2, 65, 520},
            {3, 9, 27}, {3, 10, 40}, {8, 8, 16}, {8, 9, 27}, {8, 64, 192}, {8, 65, 260}, {99, 1, 1}, {99, 98, 196},
            {99, 99, 198}};
        for (int[] row : want) {
            GuessedPlace p = Edges.with("run 1 " + row[1] + " 1;");
            p.set(4, row[0]);
            EDGES.due("order " + row[0] + " of " + row[1], p.pages(1), row[2]);
        }
        GuessedPlace hundred = Edges.with("run 1 99 1;key 100;");
        hundred.set(4, 99);
        EDGES.due("order 99 of 100", hundred.pages(1), 300);
        GuessedPlace full = Edges.full();
        full.set(4, 2);
        EDGES.due("order 2 of 300", full.pages(1), 3000);
        EDGES.due("of none", new GuessedPlace().pages(1), 0);
    }

    private static void pagesOfGone() {
        EDGES.sentence("Term 3", "Of all that stand in the ROW (GONE ones, too) added.");
        GuessedPlace p = Edges.with("slack 0;run 0 9 1;");
        EDGES.due("pages", p.pages(0), 18);
        EDGES.due("of a tree", p.pages(1), 27);
        for (int x = 0; x < 9; x++) {
            p.remove(x);
        }
        EDGES.due("all gone", p.pages(0), 18);
        EDGES.due("all gone, of a tree", p.pages(1), 27);
        p.insert(100);
        EDGES.due("a waiting one is not read", p.pages(0), 18);
        EDGES.due("nor of a tree", p.pages(1), 27);
        p.build();
        EDGES.due("100 alone", p.pages(0), 2);
        EDGES.due("100 alone, of a tree", p.pages(1), 1);
    }

    private static void errorsOf(String text, int level, int... want) {
        GuessedPlace p = Edges.with(text);
        for (int what = 0; what < 3; what++) {
            EDGES.due("errors of level " + level + " of " + text + " " + what, p.errors(level, what), want[what]);
        }
    }

    private static void errors() {
        EDGES.sentence("Term 4", "ERRORS of a level: how far GUESSES of the keys of its row are from their places: the"
            + " greatest, all added, the first place with the greatest.");
        errorsOf("slack 0;run 0 9 7;", 0, 0, 0, 0);
        errorsOf("key 5;", 0, 0, 0, 0);
        errorsOf(DENSE_FIRST, 0, 1, 4, 0);
        errorsOf(SPARSE_FIRST, 0, 1, 4, 1);
        errorsOf("slack 20;run 0 41 1;", 0, 20, 420, 0);
        // Places 0 to 20 are guessed as 0: the farthest is the last.
        errorsOf("slack 20;run 0 21 1;", 0, 20, 210, 20);
        errorsOf("slack 0;upper 1;key 0;key 1;key 10;key 11;", 1, 1, 1, 1);
        errorsOf("slack 0;upper 1;key 0;key 1;key 10;key 11;", 0, 0, 0, 0);
        GuessedPlace gone = Edges.with("slack 20;run 0 21 1;");
        gone.remove(20);
        EDGES.due("gone ones stand there", gone.errors(0, 2), 20);
    }

    /** By the words alone: the slack is told, and all keys of the row are sought. */
    private static int spentBy(GuessedPlace p, int[] row) {
        int spent = 0;
        for (int x : row) {
            spent += p.seek(x, 1);
        }
        for (int l = 0; l < p.look(4); l++) {
            spent += p.look(10 + l);
        }
        return spent;
    }

    private static int[] keysOf(GuessedPlace p) {
        int[] keys = new int[p.look(0)];
        for (int i = 0; i < keys.length; i++) {
            keys[i] = p.key(i);
        }
        return keys;
    }

    private static void bestSlack() {
        EDGES.sentence("Term 4", "BEST SLACK: of all E 0 .. 20 (UPPER as it is) that with which, if the ROW was covered"
            + " anew, COMPARED of all keys in it (GONE, too) and all PIECES of all levels together were fewest");
        String[] texts = {"run 0 30 7;", "run 1 40 1;run 1040 40 1000;run 40041 40 1;run 41080 3 1000;", SPARSE_FIRST,
            "run 0 9 1;run 100 9 3;run 900 9 2;run 9000 9 40;", "key 0;key 1;key 3;key 7;key 15;key 31;key 63;key 127;"};
        int[] bests = new int[texts.length * 2];
        for (int i = 0; i < bests.length; i++) {
            String text = texts[i / 2] + (i % 2 == 0 ? "upper 0;" : "upper 5;");
            int[] row = keysOf(Edges.with(text));
            int best = -1;
            int fewest = Edges.MOST_INT;
            for (int slack = 0; slack <= 20; slack++) {
                int spent = spentBy(Edges.with(text + "slack " + slack + ";"), row);
                if (spent < fewest) {
                    fewest = spent;
                    best = slack;
                }
            }
            bests[i] = best;
            GuessedPlace p = Edges.with(text + "slack 7;");
            p.remove(row[1]);
            p.insert(-5);
            EDGES.due("best slack of " + text, p.bestSlack(0), best);
            EDGES.due("how many of " + text, p.bestSlack(1), fewest);
            EDGES.due("the slack is as it was", p.look(20), 7);
            EDGES.due("nothing is built", p.look(2) + p.look(3), 2);
        }
        EDGES.due("0 is tried", bests[0], 0);
        EDGES.due("20 is tried", bests[2], 20);
    }

    private static void bestSlackOfSeveral() {
        EDGES.sentence("Term 4", "of several the least; how many then.");
        // Every slack finds one key by one, and two keys by two each: all are alike.
        GuessedPlace one = Edges.with("slack 20;key 5;");
        EDGES.due("of one", one.bestSlack(0), 0);
        EDGES.due("one compared, one piece", one.bestSlack(1), 2);
        GuessedPlace two = Edges.with("slack 20;key 0;key 10;");
        EDGES.due("of two", two.bestSlack(0), 0);
        EDGES.due("four compared, one piece", two.bestSlack(1), 5);
    }

    private static void bestSlackOfNone() {
        EDGES.sentence("Term 4", "(0, 0 without a ROW.)");
        GuessedPlace none = new GuessedPlace();
        EDGES.due("slack", none.bestSlack(0), 0);
        EDGES.due("how many", none.bestSlack(1), 0);
        GuessedPlace waits = Edges.withKeys(1, 2, 3);
        EDGES.due("slack, with keys that wait", waits.bestSlack(0), 0);
        EDGES.due("how many, with keys that wait", waits.bestSlack(1), 0);
        GuessedPlace gone = Edges.with("key 5;");
        gone.remove(5);
        EDGES.due("a gone one is a row", gone.bestSlack(1), 2);
    }

    private static void pieceRefused() {
        EDGES.sentence("Promise 15", "NONE - 1000000000 if there is none such, or another what.");
        GuessedPlace p = Edges.with(TWO_PIECES);
        int[][] wrong = {{-1, 0, 0}, {2, 0, 0}, {0, -1, 0}, {0, 2, 0}, {1, 1, 0}, {0, 0, -1}, {0, 0, 5},
            {Edges.LEAST_INT, 0, 0}, {Edges.MOST_INT, 0, 0}, {0, Edges.LEAST_INT, 0}, {0, Edges.MOST_INT, 0},
            {0, 0, Edges.LEAST_INT}, {0, 0, Edges.MOST_INT}, {9, 0, 0}, {10, 0, 0}};
        for (int[] w : wrong) {
            EDGES.due("piece " + w[0] + " " + w[1] + " " + w[2], p.piece(w[0], w[1], w[2]), -1000000001);
        }
        EDGES.due("the last piece has a first key", p.piece(0, 1, 4), 10);
        EDGES.due("the last level, too", p.piece(1, 0, 4), 0);
        p.set(0, 20);
        EDGES.due("a level that was", p.piece(1, 0, 0), -1000000001);
        EDGES.due("a piece that was", p.piece(0, 1, 0), -1000000001);
    }

    private static void guessRefused() {
        EDGES.sentence("Promise 16", "NONE if there is none such.");
        GuessedPlace p = Edges.with(TWO_PIECES);
        int[][] wrong = {{-1, 0}, {2, 0}, {0, -1}, {0, 2}, {1, 1}, {Edges.LEAST_INT, 0}, {Edges.MOST_INT, 0},
            {0, Edges.LEAST_INT}, {0, Edges.MOST_INT}, {9, 0}, {10, 0}};
        for (int[] w : wrong) {
            EDGES.due("guess " + w[0] + " " + w[1], p.guess(w[0], w[1], 5), -1);
        }
        EDGES.due("the last piece", p.guess(0, 1, 11), 3);
        EDGES.due("the last level", p.guess(1, 0, 11), 1);
        p.set(0, 20);
        EDGES.due("a level that was", p.guess(1, 0, 5), -1);
        EDGES.due("a piece that was", p.guess(0, 1, 5), -1);
    }

    private static void seekRefused() {
        EDGES.sentence("Promise 17", "NONE for another what.");
        GuessedPlace p = Edges.with(TWO_PIECES);
        for (int what : new int[] {-1, 3, Edges.LEAST_INT, Edges.MOST_INT}) {
            EDGES.due("what " + what, p.seek(5, what), -1);
            EDGES.due("without a row, what " + what, new GuessedPlace().seek(5, what), -1);
        }
        EDGES.due("what 2 is one: 10, 1", p.seek(5, 2), 2);
    }

    private static void pagesRefused() {
        EDGES.sentence("Promise 18", "NONE for another what.");
        GuessedPlace p = Edges.with(TWO_PIECES);
        for (int what : new int[] {-1, 2, Edges.LEAST_INT, Edges.MOST_INT}) {
            EDGES.due("what " + what, p.pages(what), -1);
            EDGES.due("without a row, what " + what, new GuessedPlace().pages(what), -1);
        }
        EDGES.due("what 1 is one", p.pages(1), 8);
    }

    private static void errorsRefused() {
        EDGES.sentence("Promise 19", "NONE if there is none such, or another what.");
        GuessedPlace p = Edges.with(TWO_PIECES);
        int[][] wrong = {{-1, 0}, {2, 0}, {0, -1}, {0, 3}, {1, 3}, {Edges.LEAST_INT, 0}, {Edges.MOST_INT, 0},
            {0, Edges.LEAST_INT}, {0, Edges.MOST_INT}, {9, 0}, {10, 0}};
        for (int[] w : wrong) {
            EDGES.due("errors " + w[0] + " " + w[1], p.errors(w[0], w[1]), -1);
        }
        EDGES.due("the last level, what 2", p.errors(1, 2), 0);
        EDGES.due("without a row", new GuessedPlace().errors(0, 0), -1);
    }

    private static void bestSlackRefused() {
        EDGES.sentence("Promise 20", "NONE for another what.");
        GuessedPlace p = Edges.with(TWO_PIECES);
        for (int what : new int[] {-1, 2, Edges.LEAST_INT, Edges.MOST_INT}) {
            EDGES.due("what " + what, p.bestSlack(what), -1);
            EDGES.due("without a row, what " + what, new GuessedPlace().bestSlack(what), -1);
        }
    }
}
