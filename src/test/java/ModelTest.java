import java.nio.charset.StandardCharsets;
import java.util.Random;

/** Random runs of calls, answered by the class and by the plain model: all promises at once. */
public final class ModelTest {
    private static final String[] WORDS = {"key", "run", "drop", "slack", "upper", "room"};
    private static final int[] ODD = {Integer.MIN_VALUE, Integer.MIN_VALUE + 1, -1000000001, -1000000000, -999999999,
        -999999998, -1, 0, 1, 999999998, 999999999, 1000000000, Integer.MAX_VALUE - 1, Integer.MAX_VALUE};

    private final Check check;
    private final Random random;
    private final GuessedPlace place = new GuessedPlace();
    private final PlainModel model = new PlainModel();
    private final String run;
    // Keys lie from base on, this many at most.
    private final int base;
    private final int width;
    private final boolean heavy;

    private ModelTest(Check check, int seed) {
        this.check = check;
        random = new Random(seed);
        run = "run " + seed + ": ";
        int[] widths = {30, 200, 1000, 20000, 99999999};
        width = widths[random.nextInt(widths.length)];
        int[] bases = {-10, -500, 0, 77777, 999999999 - width + 1, -999999999};
        base = bases[random.nextInt(bases.length)];
        heavy = seed % 5 == 0;
    }

    public static void main(String[] args) {
        int runs = args.length > 0 ? Integer.parseInt(args[0]) : 250;
        int from = args.length > 1 ? Integer.parseInt(args[1]) : 1;
        Check check = new Check("ModelTest");
        for (int seed = from; seed < from + runs && check.wrong() == 0; seed++) {
            new ModelTest(check, seed).go();
        }
        check.finish();
    }

    private void go() {
        for (int i = 0; i < 512 && check.wrong() == 0; i++) {
            call(random.nextInt(100));
        }
    }

    private int x() {
        int how = random.nextInt(40);
        if (how == 0) {
            return ODD[random.nextInt(ODD.length)];
        }
        if (how < 20 && place.look(0) > 0) {
            return place.key(random.nextInt(place.look(0))) + (how < 12 ? 0 : random.nextInt(3) - 1);
        }
        return base + random.nextInt(width);
    }

    private int small(int most) {
        return random.nextInt(60) == 0 ? ODD[random.nextInt(ODD.length)] : random.nextInt(most + 3) - 1;
    }

    private void due(String call, long got, long want) {
        check.due(run + call, got, want);
    }

    private void due(String call, boolean got, boolean want) {
        check.due(run + call, got, want);
    }

    private void call(int which) {
        if (which < 3) {
            text();
        } else if (which < 7) {
            set();
        } else if (which < 30) {
            act();
        } else if (which < 34) {
            boolean back = random.nextInt(3) > 0;
            due("undo " + back, place.undo(back), model.undo(back));
        } else if (which < 75) {
            ask(which - 34);
        } else if (which < 90) {
            askMore(which - 75);
        } else {
            int what = random.nextInt(32) - 2;
            due("look " + what, place.look(what), model.look(what));
        }
    }

    private void act() {
        int x = x();
        if (random.nextInt(3) > 0) {
            due("insert " + x, place.insert(x), model.insert(x));
        } else {
            due("remove " + x, place.remove(x), model.remove(x));
        }
        for (int what = 0; what < 8; what++) {
            due("look " + what + " after " + x, place.look(what), model.look(what));
        }
    }

    private void set() {
        int[] most = {20, 20, 50, 99, 99, 512, 4, 99999};
        int what = small(8);
        int v = what >= 0 && what < 8 && random.nextInt(3) > 0 ? random.nextInt(most[what] + 2) : small(10);
        due("set " + what + " " + v, place.set(what, v), model.set(what, v));
    }

    private void ask(int which) {
        int x = x();
        int a = small(6);
        int b = small(20);
        int what = small(4);
        switch (which % 14) {
            case 0:
                due("count " + x, place.count(x), model.count(x));
                break;
            case 1:
                due("key " + b, place.key(b * 3), model.key(b * 3));
                break;
            case 2:
                due("rank " + x, place.rank(x), model.rank(x));
                break;
            case 3:
                int y = x();
                due("range " + x + " " + y + " " + what, place.range(x, y, what), model.range(x, y, what));
                break;
            case 4:
            case 5:
                due("piece " + a + " " + b + " " + what, place.piece(a, b, what), model.piece(a, b, what));
                for (int part = 0; part < 5; part++) {
                    due("piece 0 " + b + " " + part, place.piece(0, b, part), model.piece(0, b, part));
                }
                break;
            case 6:
            case 7:
                due("guess " + a + " " + b + " " + x, place.guess(a, b, x), model.guess(a, b, x));
                due("guess 0 " + b + " " + x, place.guess(0, b, x), model.guess(0, b, x));
                break;
            case 8:
            case 9:
                due("seek " + x + " " + what, place.seek(x, what), model.seek(x, what));
                due("seek 1 " + x, place.seek(x, 1), model.seek(x, 1));
                break;
            case 10:
                due("pages " + what, place.pages(what), model.pages(what));
                break;
            case 11:
                due("errors " + a + " " + what, place.errors(a, what), model.errors(a, what));
                break;
            case 12:
                due("build", random.nextInt(9) > 0 ? 0 : place.build() - model.build(), 0);
                break;
            default:
                if (random.nextInt(heavy ? 3 : 60) == 0) {
                    int half = random.nextInt(4) - 1;
                    due("bestSlack " + half, place.bestSlack(half), model.bestSlack(half));
                    due("poison " + half, place.poison(half), model.poison(half));
                }
                break;
        }
    }

    private void askMore(int which) {
        int x = x();
        boolean yes = random.nextBoolean();
        switch (which) {
            case 0:
                due("lay", random.nextInt(3) > 0 ? 0 : place.lay() - model.lay(), 0);
                break;
            case 1:
            case 2:
            case 3:
                due("put " + x, place.put(x), model.put(x));
                for (int i = -1; i < 65; i++) {
                    due("cell " + i, place.cell(i), model.cell(i));
                }
                break;
            case 4:
                due("passes " + x + " " + yes, place.passes(x, yes), model.passes(x, yes));
                break;
            case 5:
                int far = random.nextInt(20) == 0 ? 4990 + random.nextInt(20) : random.nextInt(60) - 2;
                due("falses " + x + " " + far + " " + yes, place.falses(x, x + far, yes), model.falses(x, x + far, yes));
                break;
            case 6:
            case 7:
                int px = small(31);
                int py = small(31);
                due("point " + px + " " + py, place.point(px, py), model.point(px, py));
                break;
            case 8:
                int[] c = {small(31), small(31), small(31), small(31)};
                due("box", place.box(c[0], c[1], c[2], c[3]), model.box(c[0], c[1], c[2], c[3]));
                break;
            case 9:
            case 10:
                int box = small(8);
                int what = small(4);
                due("boxed " + box + " " + what, place.boxed(box, what), model.boxed(box, what));
                break;
            case 11:
                due("bestOrder", place.bestOrder(), model.bestOrder());
                break;
            case 12:
                boolean taken = random.nextInt(3) > 0;
                due("image " + taken, place.image(taken), model.image(taken));
                break;
            default:
                int n = small(25);
                due("feed", place.feed(x, n, x, n, x), model.feed(x, n, x, n, x));
                due("end " + n, place.end(n), model.end(n));
                due("end 0", place.end(0), model.end(0));
                break;
        }
    }

    private void text() {
        String text = statements();
        byte[] bytes = text.getBytes(StandardCharsets.ISO_8859_1);
        int[] w = Check.words(bytes);
        for (int i = 0; i < w.length; i += 5) {
            due("feed", place.feed(w[i], w[i + 1], w[i + 2], w[i + 3], w[i + 4]),
                model.feed(w[i], w[i + 1], w[i + 2], w[i + 3], w[i + 4]));
        }
        due("end", place.end(bytes.length), model.end(bytes.length));
        due("text " + text, place.text(), model.text());
        for (int what = -1; what < 3; what++) {
            due("fault " + what + " of " + text, place.fault(what), model.fault(what));
        }
        for (int what = 0; what < 24; what++) {
            due("look " + what + " after " + text, place.look(what), model.look(what));
        }
    }

    private String statements() {
        StringBuilder text = new StringBuilder();
        int many = random.nextInt(random.nextInt(10) == 0 ? 64 : 14);
        for (int i = 0; i < many; i++) {
            statement(text);
            text.append(random.nextInt(90) > 0 ? ";" : "").append(random.nextInt(4) == 0 ? "\n" : "");
        }
        if (random.nextInt(3) == 0) {
            String odd = " ;-0159kKeyrun\n\t\u00e9.";
            for (int i = random.nextInt(3); i > 0 && text.length() > 0; i--) {
                text.setCharAt(random.nextInt(text.length()), odd.charAt(random.nextInt(odd.length())));
            }
        }
        return text.toString();
    }

    private void statement(StringBuilder text) {
        int word = random.nextInt(8) < 6 ? random.nextInt(3) : random.nextInt(6);
        text.append(WORDS[word]);
        number(text, word < 3 ? Math.max(-999999999, Math.min(999999999, x())) : random.nextInt(22));
        if (word == 0 && random.nextInt(3) == 0) {
            number(text, random.nextInt(random.nextInt(9) == 0 ? 101 : 5) + 1);
        }
        if (word == 1) {
            number(text, random.nextInt(random.nextInt(4) == 0 ? 101 : 9) + 1);
            number(text, random.nextInt(random.nextInt(4) == 0 ? Math.min(width, 100001) : 9) + 1);
        }
    }

    private void number(StringBuilder text, int n) {
        text.append(n < 0 && random.nextBoolean() ? "" : " ").append(n).append(random.nextInt(5) == 0 ? " " : "");
    }
}
