import java.util.Random;

/** No call throws or hangs, whatever the arguments and the state, also behind the 512th call. */
public final class WildTest {
    private static final int[] ODD = {Integer.MIN_VALUE, -1000000000, -999999999, -2, -1, 0, 1, 2, 3, 5, 8, 10, 19, 20,
        21, 27, 31, 32, 63, 64, 99, 100, 300, 512, 600, 5000, 99999, 999999999, 1000000000, Integer.MAX_VALUE};
    private static final String TEXT = "key 5;run 1 9 9;drop 3 slack upper room -;;\n";

    private final Random random;
    private final GuessedPlace place = new GuessedPlace();

    private WildTest(int seed) {
        random = new Random(seed);
    }

    public static void main(String[] args) {
        Check check = new Check("WildTest");
        for (int seed = 0; seed < 300; seed++) {
            long sum = new WildTest(seed).run();
            check.due("the same calls give the same answers", new WildTest(seed).run(), sum);
        }
        check.finish();
    }

    private long run() {
        long sum = 0;
        for (int i = 0; i < 1500; i++) {
            sum += call(random.nextInt(34));
        }
        return sum;
    }

    private int n() {
        switch (random.nextInt(4)) {
            case 0:
                return ODD[random.nextInt(ODD.length)];
            case 1:
                return random.nextInt();
            default:
                return random.nextInt(400) - 20;
        }
    }

    private int bytes() {
        int at = random.nextInt(TEXT.length() - 4);
        return TEXT.charAt(at) << 24 | TEXT.charAt(at + 1) << 16 | TEXT.charAt(at + 2) << 8 | TEXT.charAt(at + 3);
    }

    private long call(int which) {
        boolean yes = random.nextBoolean();
        switch (which) {
            case 0: return place.feed(bytes(), bytes(), n(), bytes(), bytes());
            case 1: return place.feed(bytes(), bytes(), bytes(), bytes(), bytes());
            case 2: return place.end(n()) ? 1 : 0;
            case 3: return random.nextInt(9) == 0 ? place.text() : Check.tell(place, "run " + n() + " 99 " + n() + ";");
            case 4: return place.fault(n());
            case 5: return place.set(n(), n()) ? 1 : 0;
            case 6: return place.remove(n());
            case 7: return place.undo(yes);
            case 8: return random.nextInt(20) == 0 ? place.build() : 0;
            case 9: return place.count(n());
            case 10: return place.key(n());
            case 11: return place.rank(n());
            case 12: return place.range(n(), n(), n());
            case 13: return place.piece(n(), n(), n());
            case 14: return place.guess(random.nextInt(3), random.nextInt(20), n());
            case 15: return place.guess(n(), n(), n());
            case 16: return place.seek(n(), n());
            case 17: return place.pages(n());
            case 18: return place.errors(n(), n());
            case 19: return random.nextInt(20) == 0 ? place.bestSlack(random.nextInt(2)) : place.bestSlack(n());
            case 20: return place.lay();
            case 21: return place.put(n());
            case 22: return place.cell(n());
            case 23: return random.nextInt(20) == 0 ? place.poison(random.nextInt(2)) : place.poison(n());
            case 24: return place.passes(n(), yes) ? 1 : 0;
            case 25: return place.falses(n(), n(), yes);
            case 26: return place.point(n(), n());
            case 27: return place.box(n(), n(), n(), n());
            case 28: return place.boxed(n(), n());
            case 29: return place.bestOrder();
            case 30: return place.image(yes) ? 1 : 0;
            case 31: return place.look(n());
            default: return place.insert(n());
        }
    }
}
