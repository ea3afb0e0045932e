import java.lang.management.ManagementFactory;

/** All calls of a run live in one room: an object is small, and its calls make no objects. */
public final class RoomTest {
    private static final com.sun.management.ThreadMXBean THREADS =
        (com.sun.management.ThreadMXBean) ManagementFactory.getThreadMXBean();
    private static final int[] WORDS = Check.words("run 1 99 3;run 500 99 1;run 900 99 7;slack 0;upper 0;".getBytes());

    public static void main(String[] args) {
        Check check = new Check("RoomTest");
        calls(new GuessedPlace());
        long before = bytes();
        GuessedPlace place = new GuessedPlace();
        long made = bytes() - before;
        check.due("a new object takes less than 200,000 bytes: " + made, made < 200000, true);
        before = bytes();
        calls(place);
        made = bytes() - before;
        check.due("calls make next to nothing: " + made, made < 2000, true);
        check.finish();
    }

    private static long bytes() {
        return THREADS.getThreadAllocatedBytes(Thread.currentThread().getId());
    }

    private static void calls(GuessedPlace place) {
        for (int i = 0; i + 5 <= WORDS.length; i += 5) {
            place.feed(WORDS[i], WORDS[i + 1], WORDS[i + 2], WORDS[i + 3], WORDS[i + 4]);
        }
        place.text();
        for (int i = 0; i < 40; i++) {
            place.insert(5000 + 3 * i * i);
            place.remove(500 + i);
            place.undo(i % 3 > 0);
            place.seek(37 * i, i % 3);
            place.range(0, 50 * i, i % 3);
            place.errors(i % 3, i % 3);
            place.pages(i % 2);
            place.lay();
            place.put(13 * i);
            place.passes(i, i % 2 == 0);
            place.falses(i, 2000, i % 2 == 0);
            place.point(i % 32, i % 31);
            place.box(1, 1, i % 32, 20);
            place.bestOrder();
            place.image(i % 2 == 0);
        }
        place.poison(0);
        place.bestSlack(0);
        place.build();
    }
}
