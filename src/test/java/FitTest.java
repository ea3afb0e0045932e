import java.util.Random;

/** Promises 15 to 20 and 24 on rows of many shapes, against the plain model: every piece, guess, seek and sum. */
public final class FitTest {
    private static final Check CHECK = new Check("FitTest");

    private final Random random;
    private final GuessedPlace place = new GuessedPlace();
    private final PlainModel model = new PlainModel();
    private final String run;

    private FitTest(int seed) {
        random = new Random(seed);
        run = "row " + seed + ": ";
    }

    public static void main(String[] args) {
        int rows = args.length > 0 ? Integer.parseInt(args[0]) : 160;
        for (int seed = 0; seed < rows; seed++) {
            FitTest test = new FitTest(seed);
            test.fill(1 + test.random.nextInt(45));
            test.compareAll();
            test.compare("bestSlack 0", test.place.bestSlack(0), test.model.bestSlack(0));
            test.compare("bestSlack 1", test.place.bestSlack(1), test.model.bestSlack(1));
            test.compare("poison 0", test.place.poison(0), test.model.poison(0));
            test.compare("poison 1", test.place.poison(1), test.model.poison(1));
        }
        for (int seed = rows; seed < rows + 12; seed++) {
            FitTest test = new FitTest(seed);
            test.fill(100 + test.random.nextInt(201));
            test.compareAll();
        }
        CHECK.finish();
    }

    private void compare(String call, long got, long want) {
        CHECK.due(run + call, got, want);
    }

    private void fill(int many) {
        int slack = random.nextBoolean() ? random.nextInt(3) : random.nextInt(21);
        int upper = random.nextBoolean() ? random.nextInt(2) : random.nextInt(21);
        int[] told = {slack, upper, 50, 1 + random.nextInt(9), 2 + random.nextInt(9)};
        for (int what = 0; what < told.length; what++) {
            place.set(what, told[what]);
            model.set(what, told[what]);
        }
        int shape = random.nextInt(6);
        long x = random.nextBoolean() ? 0 : shape == 5 ? -999999999 : -random.nextInt(999999);
        for (int i = 0; i < many && x <= 999999999; i++) {
            place.insert((int) x);
            model.insert((int) x);
            x += gap(shape, i);
        }
        compare("build", place.build(), model.build());
        for (int i = random.nextInt(4); i > 0; i--) {
            int gone = place.key(random.nextInt(many));
            compare("remove " + gone, place.remove(gone), model.remove(gone));
        }
    }

    private long gap(int shape, int i) {
        switch (shape) {
            case 0:
                return 1 + random.nextInt(3);
            case 1:
                return 1 + random.nextInt(100);
            case 2:
                return 1 + (long) Math.exp(Math.min(16, Math.abs(random.nextGaussian() * 3)));
            case 3:
                return i / 12 % 2 == 0 ? 1 : 1000;
            case 4:
                return 1 + (long) (Math.abs(Math.sin(i / 15.0)) * 1000);
            default:
                return 1 + random.nextInt(9000000);
        }
    }

    private void compareAll() {
        for (int level = 0; level <= model.look(4); level++) {
            compare("pieces of level " + level, place.look(10 + level), model.look(10 + level));
            for (int what = 0; what < 3; what++) {
                compare("errors " + level + " " + what, place.errors(level, what), model.errors(level, what));
            }
            for (int i = 0; i <= Math.max(0, model.look(10 + level)); i++) {
                for (int what = 0; what < 5; what++) {
                    compare("piece " + level + " " + i, place.piece(level, i, what), model.piece(level, i, what));
                }
                int x = place.key(0) - 5 + random.nextInt(2000);
                compare("guess " + level + " " + i + " " + x, place.guess(level, i, x), model.guess(level, i, x));
            }
        }
        compare("levels", place.look(4), model.look(4));
        for (int i = 0; i < place.look(0); i++) {
            int x = place.key(i) - 1 + random.nextInt(3);
            for (int what = 0; what < 3; what++) {
                compare("seek " + x + " " + what, place.seek(x, what), model.seek(x, what));
            }
        }
        compare("pages 0", place.pages(0), model.pages(0));
        compare("pages 1", place.pages(1), model.pages(1));
    }
}
