import java.util.Arrays;

/** Guesses where a key lies in a sorted row, by the fewest straight pieces with a sure slack. */
public final class GuessedPlace {
    public static final int NONE = -1;

    private static final int NOTHING = NONE - 1000000000;
    private static final int MOST_KEY = 999999999;
    private static final int MOST_KEYS = 300;
    private static final int MOST_COUNT = 99;
    private static final int MOST_TAPE = 600;
    private static final int MOST_STATEMENTS = 60;
    private static final int MOST_RUN = 99;
    private static final int MOST_STRIDE = 99999;
    private static final int MOST_ACTS = 20;
    private static final int MOST_FALSES = 5000;
    private static final int CELLS = 64;
    private static final int MOST_LAID = 48;
    private static final int MOST_POINTS = 100;
    private static final int MOST_BOXES = 8;
    private static final int SIDE = 32;
    private static final int ORDERS = 3;
    // Two keys always share a piece, so each level has at most half the pieces of the one below: 300 keys need nine.
    private static final int MOST_LEVELS = 10;
    // More halvings than any row of ints can need: the bound that ends every search.
    private static final int MOST_HALVINGS = 32;

    private static final int SLACK = 0;
    private static final int UPPER = 1;
    private static final int ROOM = 2;
    private static final int PAGE = 3;
    private static final int ORDER = 4;
    private static final int BITS = 5;
    private static final int HASHES = 6;
    private static final int WIDTH = 7;
    private static final int SETTINGS = 8;
    private static final int[] LEAST_TOLD = {0, 0, 0, 1, 2, 8, 1, 0};
    private static final int[] MOST_TOLD = {20, 20, 50, 99, 99, 512, 4, 99999};
    private static final int[] FIRST_TOLD = {1, 1, 4, 8, 8, 64, 2, 0};

    private final State now;
    private final State kept;
    private boolean isKept;
    private final Teller teller;
    private final Cover cover;
    // What would be, if the row were covered otherwise; never what is.
    private final Cover trial;
    private final Sieve sieve;
    private final int[] spoilt;

    public GuessedPlace() {
        now = new State();
        kept = new State();
        isKept = false;
        teller = new Teller();
        cover = new Cover();
        trial = new Cover();
        sieve = new Sieve();
        spoilt = new int[MOST_KEYS + 1];
    }

    public int feed(int a, int b, int c, int d, int e) {
        if (teller.length + 20 > MOST_TAPE) {
            return NONE;
        }
        teller.addFour(a);
        teller.addFour(b);
        teller.addFour(c);
        teller.addFour(d);
        teller.addFour(e);
        return teller.length;
    }

    public boolean end(int n) {
        if (n < 0 || n > teller.length) {
            return false;
        }
        teller.length = n;
        return true;
    }

    public int text() {
        teller.readAll(now);
        teller.length = 0;
        if (teller.faultKind != 0) {
            return NONE;
        }
        now.keys.copyFrom(teller.keys);
        System.arraycopy(teller.told, 0, now.told, 0, SETTINGS);
        now.acts.forget();
        buildAll();
        return now.keys.size;
    }

    public int fault(int what) {
        if (what == 0) {
            return teller.faultKind;
        }
        return what == 1 ? teller.faultPlace : NONE;
    }

    public boolean set(int what, int v) {
        if (!canBeTold(what, v)) {
            return false;
        }
        now.told[what] = v;
        if (what == SLACK || what == UPPER) {
            now.acts.forget();
            buildAll();
        }
        return true;
    }

    public int insert(int x) {
        if (!canBeKey(x) || !now.keys.canTake(x, 1)) {
            return NONE;
        }
        boolean isNew = !now.keys.has(x);
        now.keys.change(x, 1);
        now.acts.note(x, 1);
        if (isNew && !now.stands(x) && now.waiting() > now.told[ROOM]) {
            buildAll();
        }
        return now.keys.countOf(x);
    }

    public int remove(int x) {
        if (!now.keys.has(x)) {
            return NONE;
        }
        now.keys.change(x, -1);
        now.acts.note(x, -1);
        return now.keys.countOf(x);
    }

    public int undo(boolean back) {
        int act = now.acts.step(back);
        if (act < 0 || act >= MOST_ACTS) {
            return NOTHING;
        }
        int x = now.acts.keys[act];
        int by = now.acts.changes[act];
        now.keys.change(x, back ? -by : by);
        return x;
    }

    public int build() {
        now.acts.forget();
        buildAll();
        return now.rowSize;
    }

    public int count(int x) {
        return now.keys.countOf(x);
    }

    public int key(int i) {
        return i >= 0 && i < now.keys.size ? now.keys.keys[i] : NOTHING;
    }

    public int rank(int x) {
        return now.keys.below(x);
    }

    public long range(int a, int b, int what) {
        if (what < 0 || what > 2) {
            return NONE;
        }
        Keys all = now.keys;
        long sum = 0;
        for (int i = all.below(a); i < all.size && all.keys[i] <= b; i++) {
            if (what == 0) {
                sum++;
            } else {
                sum += what == 1 ? all.counts[i] : (long) all.keys[i] * all.counts[i];
            }
        }
        return sum;
    }

    public int piece(int level, int i, int what) {
        if (!isPiece(level, i)) {
            return NOTHING;
        }
        Level of = cover.levels[level];
        switch (what) {
            case 0:
                return of.first[i];
            case 1:
                return of.lastOf(i);
            case 2:
                return of.slopeP[i];
            case 3:
                return of.slopeQ[i];
            case 4:
                return of.firstKeyOf(i);
            default:
                return NOTHING;
        }
    }

    public int guess(int level, int i, int x) {
        return isPiece(level, i) ? cover.levels[level].guessed(i, x) : NONE;
    }

    public int seek(int x, int what) {
        if (what < 0 || what > 2) {
            return NONE;
        }
        int place = what == 2 ? cover.findPlainly(x) : cover.find(x);
        return what == 0 ? place : cover.compared;
    }

    public int pages(int what) {
        if (what == 0) {
            return cover.pagesOfAll(now.told[PAGE]);
        }
        return what == 1 ? now.rowSize * (treeHeight() + 1) : NONE;
    }

    public int errors(int level, int what) {
        if (level < 0 || level >= cover.height || what < 0 || what > 2) {
            return NONE;
        }
        Level of = cover.levels[level];
        int greatest = 0;
        int sum = 0;
        int place = 0;
        for (int i = 0; i < of.pieces; i++) {
            for (int at = of.first[i]; at <= of.lastOf(i); at++) {
                int off = Math.abs(of.guessed(i, of.row[at]) - at);
                sum += off;
                if (off > greatest) {
                    greatest = off;
                    place = at;
                }
            }
        }
        if (what == 0) {
            return greatest;
        }
        return what == 1 ? sum : place;
    }

    public int bestSlack(int what) {
        if (what != 0 && what != 1) {
            return NONE;
        }
        int best = 0;
        int fewest = 0;
        for (int slack = LEAST_TOLD[SLACK]; slack <= MOST_TOLD[SLACK]; slack++) {
            trial.over(now.row, now.rowSize, slack, now.told[UPPER]);
            int spent = trial.comparedOfAll() + trial.piecesOfAll();
            if (slack == LEAST_TOLD[SLACK] || spent < fewest) {
                best = slack;
                fewest = spent;
            }
        }
        return what == 0 ? best : fewest;
    }

    public int lay() {
        return now.gaps.fillEvenly(now.keys);
    }

    public int put(int x) {
        return canBeKey(x) ? now.gaps.squeezeIn(x) : NONE;
    }

    public int cell(int i) {
        return i >= 0 && i < CELLS ? now.gaps.cells[i] : NOTHING;
    }

    public int poison(int what) {
        if (what != 0 && what != 1) {
            return NONE;
        }
        Keys all = now.keys;
        trial.over(all.keys, all.size, now.told[SLACK], now.told[UPPER]);
        int worst = NOTHING;
        int most = 0;
        // One below and one above each key, so that the least of several comes first.
        for (int i = 0; i < 2 * all.size; i++) {
            int x = all.keys[i / 2] + (i % 2 == 0 ? -1 : 1);
            if (canBeKey(x) && !all.has(x)) {
                int pieces = piecesWith(x);
                if (pieces > most) {
                    most = pieces;
                    worst = x;
                }
            }
        }
        return what == 0 ? worst : most;
    }

    public boolean passes(int x, boolean learnt) {
        sieve.ready(now, learnt);
        return sieve.lets(x);
    }

    public int falses(int a, int b, boolean learnt) {
        long many = (long) b - a + 1;
        if (many < 1 || many > MOST_FALSES) {
            return NONE;
        }
        sieve.ready(now, learnt);
        int wrong = 0;
        for (int i = 0; i < many; i++) {
            if (sieve.lets(a + i) && !now.keys.has(a + i)) {
                wrong++;
            }
        }
        return wrong;
    }

    public int point(int x, int y) {
        return now.plane.addPoint(x, y);
    }

    public int box(int x0, int y0, int x1, int y1) {
        return now.plane.addBox(x0, y0, x1, y1);
    }

    public int boxed(int box, int what) {
        if (box < 0 || box >= now.plane.boxCount || what < 0 || what > ORDERS) {
            return NONE;
        }
        return what == 0 ? now.plane.inside(box) : now.plane.readBy(box, what - 1);
    }

    public int bestOrder() {
        int best = 0;
        int fewest = 0;
        for (int order = 0; order < ORDERS; order++) {
            int read = 0;
            for (int b = 0; b < now.plane.boxCount; b++) {
                read += now.plane.readBy(b, order);
            }
            if (order == 0 || read < fewest) {
                best = order;
                fewest = read;
            }
        }
        return best;
    }

    public boolean image(boolean taken) {
        if (taken) {
            kept.copyFrom(now);
            isKept = true;
        } else if (isKept) {
            now.copyFrom(kept);
            cover.over(now.row, now.rowSize, now.told[SLACK], now.told[UPPER]);
        }
        return isKept;
    }

    public int look(int what) {
        if (what >= 10 && what < 10 + cover.height) {
            return cover.levels[what - 10].pieces;
        }
        if (what >= 20 && what < 20 + SETTINGS) {
            return now.told[what - 20];
        }
        switch (what) {
            case 0:
                return now.keys.size;
            case 1:
                return now.rowSize;
            case 2:
                return now.waiting();
            case 3:
                return now.rowSize - now.standing();
            case 4:
                return cover.height;
            case 5:
                return now.cost;
            case 6:
                return now.acts.done;
            case 7:
                return now.acts.undone;
            case 8:
                return now.plane.points;
            case 9:
                return now.plane.boxCount;
            default:
                return NONE;
        }
    }

    private void buildAll() {
        now.standAll();
        cover.over(now.row, now.rowSize, now.told[SLACK], now.told[UPPER]);
    }

    private boolean isPiece(int level, int i) {
        return level >= 0 && level < cover.height && i >= 0 && i < cover.levels[level].pieces;
    }

    private int treeHeight() {
        int height = 0;
        long held = 1;
        while (held < now.rowSize && height < MOST_KEYS) {
            held *= now.told[ORDER];
            height++;
        }
        return height;
    }

    /**
     * How many pieces all keys have together with x, which is none of them. Trial holds the keys' own pieces: those
     * that end ahead of x stay, and from a place behind x where one of them began all goes on as it did.
     */
    private int piecesWith(int x) {
        Keys all = now.keys;
        Level alone = trial.levels[0];
        int at = all.below(x);
        System.arraycopy(all.keys, 0, spoilt, 0, at);
        spoilt[at] = x;
        System.arraycopy(all.keys, at, spoilt, at + 1, all.size - at);
        int same = 0;
        while (same + 1 < alone.pieces && alone.first[same + 1] < at) {
            same++;
        }
        int pieces = same;
        int from = alone.first[same];
        for (int step = 0; step <= all.size && from <= all.size; step++) {
            from = trial.fit.reach(spoilt, from, all.size + 1, now.told[SLACK]) + 1;
            pieces++;
            while (same < alone.pieces && alone.first[same] < from - 1) {
                same++;
            }
            if (from > at && same < alone.pieces && alone.first[same] == from - 1) {
                return pieces + alone.pieces - same;
            }
        }
        return pieces;
    }

    private static boolean canBeKey(int x) {
        return x >= -MOST_KEY && x <= MOST_KEY;
    }

    private static boolean canBeTold(int what, int v) {
        return what >= 0 && what < SETTINGS && v >= LEAST_TOLD[what] && v <= MOST_TOLD[what];
    }

    /** How many of the first size numbers, which are at most as many as there are, are less than x. */
    private static int lessThan(int[] sorted, int size, int x) {
        int low = 0;
        int high = size;
        for (int step = 0; step < MOST_HALVINGS && low < high; step++) {
            int mid = (low + high) / 2;
            if (sorted[mid] < x) {
                low = mid + 1;
            } else {
                high = mid;
            }
        }
        return low;
    }

    /** All that an image holds. */
    private static final class State {
        final Keys keys = new Keys();
        // Keys that are none here are gone; keys that do not stand here wait in the buffer.
        final int[] row = new int[MOST_KEYS];
        int rowSize;
        final int[] told = FIRST_TOLD.clone();
        int cost;
        final Acts acts = new Acts();
        final Gaps gaps = new Gaps();
        final Plane plane = new Plane();

        void copyFrom(State other) {
            keys.copyFrom(other.keys);
            System.arraycopy(other.row, 0, row, 0, MOST_KEYS);
            rowSize = other.rowSize;
            System.arraycopy(other.told, 0, told, 0, SETTINGS);
            cost = other.cost;
            acts.copyFrom(other.acts);
            System.arraycopy(other.gaps.cells, 0, gaps.cells, 0, CELLS);
            plane.copyFrom(other.plane);
        }

        void standAll() {
            System.arraycopy(keys.keys, 0, row, 0, keys.size);
            rowSize = keys.size;
            cost += rowSize;
        }

        boolean stands(int x) {
            int i = lessThan(row, rowSize, x);
            return i < rowSize && row[i] == x;
        }

        /** How many keys stand in the row. */
        int standing() {
            int many = 0;
            int i = 0;
            for (int place = 0; place < rowSize; place++) {
                while (i < keys.size && keys.keys[i] < row[place]) {
                    i++;
                }
                if (i < keys.size && keys.keys[i] == row[place]) {
                    many++;
                }
            }
            return many;
        }

        int waiting() {
            return keys.size - standing();
        }
    }

    /** The keys, sorted, each with its count above 0. */
    private static final class Keys {
        final int[] keys = new int[MOST_KEYS];
        final int[] counts = new int[MOST_KEYS];
        int size;

        void copyFrom(Keys other) {
            System.arraycopy(other.keys, 0, keys, 0, other.size);
            System.arraycopy(other.counts, 0, counts, 0, other.size);
            size = other.size;
        }

        int below(int x) {
            return lessThan(keys, size, x);
        }

        int countOf(int x) {
            int i = lessThan(keys, size, x);
            return i < size && keys[i] == x ? counts[i] : 0;
        }

        boolean has(int x) {
            return countOf(x) > 0;
        }

        boolean canTake(int x, int more) {
            int has = countOf(x);
            return has + more <= MOST_COUNT && (has > 0 || size < MOST_KEYS);
        }

        /** Who asks for more asks canTake() first. */
        void change(int x, int by) {
            int i = below(x);
            if (i >= size || keys[i] != x) {
                makeWay(i, x);
            }
            if (i < size && keys[i] == x) {
                counts[i] += by;
                if (counts[i] <= 0) {
                    closeUp(i);
                }
            }
        }

        private void makeWay(int i, int x) {
            if (size >= MOST_KEYS) {
                return;
            }
            System.arraycopy(keys, i, keys, i + 1, size - i);
            System.arraycopy(counts, i, counts, i + 1, size - i);
            keys[i] = x;
            counts[i] = 0;
            size++;
        }

        private void closeUp(int i) {
            System.arraycopy(keys, i + 1, keys, i, size - i - 1);
            System.arraycopy(counts, i + 1, counts, i, size - i - 1);
            size--;
        }
    }

    /** The latest acts: the done ones first, then the undone ones, the next to be redone first. */
    private static final class Acts {
        final int[] keys = new int[MOST_ACTS];
        final int[] changes = new int[MOST_ACTS];
        int done;
        int undone;

        void copyFrom(Acts other) {
            System.arraycopy(other.keys, 0, keys, 0, MOST_ACTS);
            System.arraycopy(other.changes, 0, changes, 0, MOST_ACTS);
            done = other.done;
            undone = other.undone;
        }

        void forget() {
            done = 0;
            undone = 0;
        }

        void note(int x, int by) {
            if (done >= MOST_ACTS) {
                System.arraycopy(keys, 1, keys, 0, MOST_ACTS - 1);
                System.arraycopy(changes, 1, changes, 0, MOST_ACTS - 1);
                done = MOST_ACTS - 1;
            }
            keys[done] = x;
            changes[done] = by;
            done++;
            undone = 0;
        }

        /** Which act is to be undone or redone; NONE if there is none. */
        int step(boolean back) {
            if (back) {
                if (done == 0) {
                    return NONE;
                }
                done--;
                undone++;
                return done;
            }
            if (undone == 0) {
                return NONE;
            }
            undone--;
            done++;
            return done - 1;
        }
    }

    /** The row with gaps. */
    private static final class Gaps {
        final int[] cells = new int[CELLS];

        Gaps() {
            Arrays.fill(cells, NOTHING);
        }

        int fillEvenly(Keys from) {
            Arrays.fill(cells, NOTHING);
            int many = Math.min(MOST_LAID, from.size);
            for (int i = 0; i < many; i++) {
                cells[CELLS * i / many] = from.keys[i];
            }
            return many;
        }

        /** How many were moved; NONE if x is here, or all is full. */
        int squeezeIn(int x) {
            int a = -1;
            int b = CELLS;
            for (int i = CELLS - 1; i >= 0; i--) {
                if (cells[i] == x) {
                    return NONE;
                }
                if (cells[i] != NOTHING && cells[i] > x) {
                    b = i;
                } else if (cells[i] != NOTHING) {
                    a = Math.max(a, i);
                }
            }
            if (b - a > 1) {
                cells[(a + b) / 2] = x;
                return 0;
            }
            return push(a, b, x);
        }

        private int push(int a, int b, int x) {
            int left = a - 1;
            while (left >= 0 && cells[left] != NOTHING) {
                left--;
            }
            int right = b + 1;
            while (right < CELLS && cells[right] != NOTHING) {
                right++;
            }
            boolean canLeft = left >= 0;
            boolean canRight = right < CELLS;
            if (canLeft && (!canRight || a - left <= right - b)) {
                System.arraycopy(cells, left + 1, cells, left, a - left);
                cells[a] = x;
                return a - left;
            }
            if (canRight) {
                System.arraycopy(cells, b, cells, b + 1, right - b);
                cells[b] = x;
                return right - b;
            }
            return NONE;
        }
    }

    /** Points and boxes. */
    private static final class Plane {
        final int[] xs = new int[MOST_POINTS];
        final int[] ys = new int[MOST_POINTS];
        int points;
        // Of each box x0, y0, x1, y1.
        final int[] boxes = new int[4 * MOST_BOXES];
        int boxCount;

        void copyFrom(Plane other) {
            System.arraycopy(other.xs, 0, xs, 0, MOST_POINTS);
            System.arraycopy(other.ys, 0, ys, 0, MOST_POINTS);
            points = other.points;
            System.arraycopy(other.boxes, 0, boxes, 0, boxes.length);
            boxCount = other.boxCount;
        }

        int addPoint(int x, int y) {
            if (!isOn(x) || !isOn(y) || points >= MOST_POINTS) {
                return NONE;
            }
            xs[points] = x;
            ys[points] = y;
            points++;
            return points - 1;
        }

        int addBox(int x0, int y0, int x1, int y1) {
            boolean isOn = isOn(x0) && isOn(y0) && isOn(x1) && isOn(y1);
            if (!isOn || x0 > x1 || y0 > y1 || boxCount >= MOST_BOXES) {
                return NONE;
            }
            boxes[4 * boxCount] = x0;
            boxes[4 * boxCount + 1] = y0;
            boxes[4 * boxCount + 2] = x1;
            boxes[4 * boxCount + 3] = y1;
            boxCount++;
            return boxCount - 1;
        }

        int inside(int box) {
            int x0 = boxes[4 * box];
            int y0 = boxes[4 * box + 1];
            int x1 = boxes[4 * box + 2];
            int y1 = boxes[4 * box + 3];
            int many = 0;
            for (int i = 0; i < points; i++) {
                if (xs[i] >= x0 && xs[i] <= x1 && ys[i] >= y0 && ys[i] <= y1) {
                    many++;
                }
            }
            return many;
        }

        /** By every order the least and the greatest number of a box are at corners. */
        int readBy(int box, int order) {
            int least = SIDE * SIDE;
            int greatest = 0;
            for (int corner = 0; corner < 4; corner++) {
                int x = boxes[4 * box + 2 * (corner % 2)];
                int y = boxes[4 * box + 1 + 2 * (corner / 2)];
                least = Math.min(least, number(order, x, y));
                greatest = Math.max(greatest, number(order, x, y));
            }
            int many = 0;
            for (int i = 0; i < points; i++) {
                int n = number(order, xs[i], ys[i]);
                if (n >= least && n <= greatest) {
                    many++;
                }
            }
            return many;
        }

        private static boolean isOn(int x) {
            return x >= 0 && x < SIDE;
        }

        private static int number(int order, int x, int y) {
            if (order == 0) {
                return SIDE * y + x;
            }
            if (order == 2) {
                return SIDE * y + (y % 2 == 0 ? x : SIDE - 1 - x);
            }
            int n = 0;
            for (int bit = 0; bit < 5; bit++) {
                n |= (x >> bit & 1) << 2 * bit;
                n |= (y >> bit & 1) << 2 * bit + 1;
            }
            return n;
        }
    }

    /**
     * The greatest slope from an earlier top (y and the slack) to a later bottom (y less the slack). Tops that can
     * still matter are kept: from start on they bend upwards, and none ahead of start can give a greater slope again.
     */
    private static final class Side {
        private final int[] xs = new int[MOST_KEYS + 1];
        private final int[] tops = new int[MOST_KEYS + 1];
        private int start;
        private int size;
        // The slope is p / q; there is none yet while q is 0.
        long p;
        long q;

        void begin(long firstP, long firstQ) {
            start = 0;
            size = 0;
            p = firstP;
            q = firstQ;
        }

        /** Each x is greater than the ones ahead of it; at the first there is no top yet. */
        void addBottom(int x, int bottom) {
            if (start >= size) {
                return;
            }
            long rise = bottom - tops[start];
            long run = (long) x - xs[start];
            if (q > 0 && rise * q <= p * run) {
                return;
            }
            for (int i = start + 1; i < size; i++) {
                long nextRise = bottom - tops[i];
                long nextRun = (long) x - xs[i];
                if (nextRise * run < rise * nextRun) {
                    break;
                }
                start = i;
                rise = nextRise;
                run = nextRun;
            }
            p = rise;
            q = run;
        }

        void addTop(int x, int top) {
            while (size - start >= 2) {
                int a = size - 2;
                int b = size - 1;
                long upToB = (tops[b] - tops[a]) * ((long) x - xs[a]);
                long upToTop = (top - tops[a]) * ((long) xs[b] - xs[a]);
                if (upToB < upToTop) {
                    break;
                }
                size--;
            }
            if (size < xs.length) {
                xs[size] = x;
                tops[size] = top;
                size++;
            }
        }
    }

    /** The longest piece from a place on, and its least slope. */
    private static final class Fit {
        private final Side low = new Side();
        // The greatest slope of all, as that of the places turned upside down: the sides are mirror images.
        private final Side high = new Side();
        long p;
        long q;

        int reach(int[] row, int from, int size, int slack) {
            low.begin(0, 1);
            high.begin(0, 0);
            int end = Math.min(size, row.length);
            int last = from;
            for (int place = Math.max(0, from); place < end; place++) {
                int x = row[place];
                int y = place - from;
                low.addBottom(x, y - slack);
                low.addTop(x, y + slack);
                high.addBottom(x, -y - slack);
                high.addTop(x, -y + slack);
                if (high.q > 0 && low.p * high.q + high.p * low.q > 0) {
                    break;
                }
                last = place;
                p = low.p;
                q = low.q;
            }
            return last;
        }
    }

    /** A row and the pieces that cover it. */
    private static final class Level {
        final int[] row;
        int size;
        int slack;
        int pieces;
        final int[] first;
        final int[] slopeP;
        final int[] slopeQ;
        // The line of a piece is (p x + line) / q.
        private final long[] lines;

        Level(int most) {
            row = new int[most];
            int mostPieces = most / 2 + 1;
            first = new int[mostPieces];
            slopeP = new int[mostPieces];
            slopeQ = new int[mostPieces];
            lines = new long[mostPieces];
        }

        void takeRow(int[] from, int many) {
            size = Math.max(0, Math.min(many, Math.min(from.length, row.length)));
            System.arraycopy(from, 0, row, 0, size);
        }

        void takeFirstKeys(Level under) {
            size = Math.min(under.pieces, row.length);
            for (int i = 0; i < size; i++) {
                row[i] = under.firstKeyOf(i);
            }
        }

        void coverBy(Fit fit, int withSlack) {
            slack = withSlack;
            pieces = 0;
            int from = 0;
            while (from < size && pieces < first.length) {
                int last = fit.reach(row, from, size, slack);
                first[pieces] = from;
                setLine(pieces, last, fit.p, fit.q);
                pieces++;
                from = last + 1;
            }
        }

        private void setLine(int i, int last, long p, long q) {
            long shared = divisor(p, q);
            int leastP = (int) (p / shared);
            int leastQ = (int) (q / shared);
            long line = 0;
            for (int place = first[i]; place <= last; place++) {
                long needed = (long) leastQ * (place - slack) - (long) leastP * row[place];
                if (place == first[i] || needed > line) {
                    line = needed;
                }
            }
            slopeP[i] = leastP;
            slopeQ[i] = leastQ;
            lines[i] = line;
        }

        private static long divisor(long p, long q) {
            long a = q;
            long b = p;
            for (int step = 0; step < 100 && b > 0; step++) {
                long rest = a % b;
                a = b;
                b = rest;
            }
            return Math.max(1, a);
        }

        int lastOf(int i) {
            return i + 1 < pieces ? first[i + 1] - 1 : size - 1;
        }

        int firstKeyOf(int i) {
            return row[first[i]];
        }

        int guessed(int i, int x) {
            long q = Math.max(1, slopeQ[i]);
            long f = Math.floorDiv((long) slopeP[i] * x + lines[i], q);
            return (int) Math.max(0, Math.min(f, lastOf(i) + 1));
        }
    }

    /** Levels of pieces over pieces. */
    private static final class Cover {
        final Level[] levels = new Level[MOST_LEVELS];
        final Fit fit = new Fit();
        int height;
        int compared;

        Cover() {
            for (int l = 0; l < MOST_LEVELS; l++) {
                levels[l] = new Level((MOST_KEYS >> l) + 2);
            }
        }

        void over(int[] row, int many, int slack, int upper) {
            levels[0].takeRow(row, many);
            levels[0].coverBy(fit, slack);
            height = levels[0].size > 0 ? 1 : 0;
            while (height > 0 && height < MOST_LEVELS && levels[height - 1].pieces > 1) {
                levels[height].takeFirstKeys(levels[height - 1]);
                levels[height].coverBy(fit, upper);
                height++;
            }
        }

        int find(int x) {
            compared = 0;
            int at = 0;
            for (int l = height - 1; l >= 0; l--) {
                Level level = levels[l];
                int g = level.guessed(at, x);
                int low = Math.max(0, g - level.slack - 1);
                int high = Math.min(level.size, g + level.slack + 2);
                if (l == 0) {
                    return halve(level.row, low, high, x);
                }
                // Not above x is less than the next number; no key is above the greatest that can be.
                int next = Math.min(x, MOST_KEY) + 1;
                at = Math.max(0, halve(level.row, low, high, next) - 1);
            }
            return at;
        }

        int findPlainly(int x) {
            compared = 0;
            return halve(levels[0].row, 0, levels[0].size, x);
        }

        private int halve(int[] row, int from, int to, int x) {
            int low = from;
            int high = Math.min(to, row.length);
            for (int step = 0; step < MOST_HALVINGS && low < high; step++) {
                int mid = (low + high) / 2;
                compared++;
                if (row[mid] < x) {
                    low = mid + 1;
                } else {
                    high = mid;
                }
            }
            return low;
        }

        int comparedOfAll() {
            int sum = 0;
            for (int place = 0; place < levels[0].size; place++) {
                find(levels[0].row[place]);
                sum += compared;
            }
            return sum;
        }

        int piecesOfAll() {
            int sum = 0;
            for (int l = 0; l < height; l++) {
                sum += levels[l].pieces;
            }
            return sum;
        }

        int pagesOfAll(int page) {
            Level ground = levels[0];
            int by = Math.max(1, page);
            int sum = 0;
            for (int i = 0; i < ground.pieces; i++) {
                for (int place = ground.first[i]; place <= ground.lastOf(i); place++) {
                    int g = ground.guessed(i, ground.row[place]);
                    int from = Math.max(0, g - ground.slack) / by;
                    int to = Math.min(ground.size - 1, g + ground.slack) / by;
                    sum += to - from + 1 + height;
                }
            }
            return sum;
        }
    }

    /** The plain filter and the learnt one. */
    private static final class Sieve {
        private final boolean[] marks = new boolean[512];
        private int bits = 1;
        private int hashes;
        private Keys all;
        // Below 0 for the plain filter, which knows no spans.
        private int width;

        void ready(State state, boolean learnt) {
            bits = Math.max(1, Math.min(marks.length, state.told[BITS]));
            hashes = state.told[HASHES];
            all = state.keys;
            width = learnt ? state.told[WIDTH] : -1;
            for (int bit = 0; bit < bits; bit++) {
                marks[bit] = false;
            }
            for (int i = 0; i < all.size; i++) {
                if (!isInSpan(i)) {
                    mark(all.keys[i]);
                }
            }
        }

        boolean lets(int x) {
            if (all == null || !canBeKey(x)) {
                return false;
            }
            int i = all.below(x);
            boolean isKey = i < all.size && all.keys[i] == x;
            if (isKey ? isInSpan(i) : isNearNext(i - 1)) {
                return true;
            }
            for (int h = 0; h < hashes; h++) {
                if (!marks[hash(x, h)]) {
                    return false;
                }
            }
            return true;
        }

        private boolean isInSpan(int i) {
            return isNearNext(i - 1) || isNearNext(i);
        }

        private boolean isNearNext(int i) {
            return i >= 0 && i + 1 < all.size && all.keys[i + 1] - all.keys[i] <= width;
        }

        private void mark(int x) {
            for (int h = 0; h < hashes; h++) {
                marks[hash(x, h)] = true;
            }
        }

        private int hash(int x, int h) {
            long n = (x + 1000000000L) * (40503 + 2 * h) + 977 * h;
            return (int) (n % 2147483647L % bits);
        }
    }

    /** The tape, and what is told by it. */
    private static final class Teller {
        private static final int WORD_KEY = 0;
        private static final int WORD_RUN = 1;
        private static final int WORD_DROP = 2;
        private static final int WORD_SLACK = 3;
        private static final int WORD_UPPER = 4;
        private static final int WORD_ROOM = 5;
        private static final int WORDS = 6;

        private static final int AT_END = 0;
        private static final int AT_WORD = 1;
        private static final int AT_NUMBER = 2;
        private static final int AT_SEMICOLON = 3;
        private static final int AT_NO_TOKEN = 4;

        private final byte[] tape = new byte[MOST_TAPE];
        int length;
        // What would be after the statements read so far.
        final Keys keys = new Keys();
        final int[] told = new int[SETTINGS];
        int faultKind;
        int faultPlace = NONE;
        // The tokens, the end last: their kinds, places and values (of a keyword which one).
        private final int[] kinds = new int[MOST_TAPE + 1];
        private final int[] places = new int[MOST_TAPE + 1];
        private final int[] values = new int[MOST_TAPE + 1];
        // Which token is the next to be read; none is read behind the end.
        private int next;

        void addFour(int n) {
            for (int shift = 24; shift >= 0 && length < MOST_TAPE; shift -= 8) {
                tape[length] = (byte) (n >> shift);
                length++;
            }
        }

        void readAll(State state) {
            keys.copyFrom(state.keys);
            System.arraycopy(state.told, 0, told, 0, SETTINGS);
            faultKind = 0;
            faultPlace = NONE;
            splitTape();
            next = 0;
            for (int read = 0; read <= MOST_STATEMENTS && kinds[next] != AT_END && faultKind == 0; read++) {
                if (kinds[next] == AT_WORD && read == MOST_STATEMENTS) {
                    fail(3, places[next]);
                } else if (take(AT_WORD) && readStatement(next - 1)) {
                    take(AT_SEMICOLON);
                }
            }
        }

        private boolean fail(int fault, int place) {
            faultKind = fault;
            faultPlace = place;
            return false;
        }

        /** None takes the end, so next never goes behind it. */
        private boolean take(int kind) {
            if (kinds[next] != kind) {
                return fail(1, places[next]);
            }
            next++;
            return true;
        }

        /** The number is that of the token ahead of next then. */
        private boolean takeNumber(int least, int most) {
            if (!take(AT_NUMBER)) {
                return false;
            }
            if (values[next - 1] < least || values[next - 1] > most) {
                return fail(2, places[next - 1]);
            }
            return true;
        }

        private boolean readStatement(int word) {
            switch (values[word]) {
                case WORD_KEY:
                    return readKey(word);
                case WORD_RUN:
                    return readRun(word);
                case WORD_DROP:
                    return readDrop();
                case WORD_SLACK:
                    return readSetting(SLACK);
                case WORD_UPPER:
                    return readSetting(UPPER);
                default:
                    return readSetting(ROOM);
            }
        }

        private boolean readKey(int word) {
            if (!takeNumber(-MOST_KEY, MOST_KEY)) {
                return false;
            }
            int x = values[next - 1];
            int more = 1;
            if (kinds[next] == AT_NUMBER) {
                if (!takeNumber(1, MOST_COUNT)) {
                    return false;
                }
                more = values[next - 1];
            }
            if (!keys.canTake(x, more)) {
                return fail(3, places[word]);
            }
            keys.change(x, more);
            return true;
        }

        private boolean readRun(int word) {
            boolean isRead = takeNumber(-MOST_KEY, MOST_KEY) && takeNumber(1, MOST_RUN) && takeNumber(1, MOST_STRIDE);
            if (!isRead) {
                return false;
            }
            int from = values[next - 3];
            int many = values[next - 2];
            int stride = values[next - 1];
            if (!canBeKey(from + (many - 1) * stride)) {
                return fail(2, places[next - 1]);
            }
            for (int i = 0; i < many; i++) {
                if (!keys.canTake(from + i * stride, 1)) {
                    return fail(3, places[word]);
                }
                keys.change(from + i * stride, 1);
            }
            return true;
        }

        private boolean readDrop() {
            if (!takeNumber(-MOST_KEY, MOST_KEY)) {
                return false;
            }
            int x = values[next - 1];
            if (keys.has(x)) {
                keys.change(x, -keys.countOf(x));
            }
            return true;
        }

        private boolean readSetting(int what) {
            if (!takeNumber(LEAST_TOLD[what], MOST_TOLD[what])) {
                return false;
            }
            told[what] = values[next - 1];
            return true;
        }

        private void splitTape() {
            int tokens = 0;
            int at = 0;
            while (at < length && tokens < MOST_TAPE) {
                if (tape[at] == 32 || tape[at] == 10) {
                    at++;
                } else {
                    places[tokens] = at;
                    at = split(tokens, at);
                    tokens++;
                }
            }
            kinds[tokens] = AT_END;
            places[tokens] = length;
        }

        /** Answers the place behind the token, which is always beyond its own. */
        private int split(int token, int at) {
            if (isLetter(at)) {
                return splitWord(token, at);
            }
            if (isDigit(at) || tape[at] == '-') {
                return splitNumber(token, at);
            }
            kinds[token] = tape[at] == ';' ? AT_SEMICOLON : AT_NO_TOKEN;
            return at + 1;
        }

        private int splitWord(int token, int at) {
            int behind = at;
            while (behind < length && isLetter(behind)) {
                behind++;
            }
            kinds[token] = AT_NO_TOKEN;
            for (int word = 0; word < WORDS; word++) {
                if (stands(keyword(word), at, behind)) {
                    kinds[token] = AT_WORD;
                    values[token] = word;
                }
            }
            return behind;
        }

        private int splitNumber(int token, int at) {
            boolean isLess = tape[at] == '-';
            int behind = isLess ? at + 1 : at;
            int digits = 0;
            int n = 0;
            while (behind < length && isDigit(behind)) {
                digits++;
                // A tenth digit makes it no number: what comes behind the ninth is not reckoned.
                n = digits <= 9 ? 10 * n + tape[behind] - '0' : n;
                behind++;
            }
            kinds[token] = digits >= 1 && digits <= 9 ? AT_NUMBER : AT_NO_TOKEN;
            values[token] = isLess ? -n : n;
            return behind;
        }

        private boolean stands(String word, int from, int behind) {
            if (behind - from != word.length()) {
                return false;
            }
            for (int i = 0; i < word.length(); i++) {
                if (tape[from + i] != word.charAt(i)) {
                    return false;
                }
            }
            return true;
        }

        private boolean isLetter(int at) {
            return tape[at] >= 'a' && tape[at] <= 'z' || tape[at] >= 'A' && tape[at] <= 'Z';
        }

        private boolean isDigit(int at) {
            return tape[at] >= '0' && tape[at] <= '9';
        }

        private static String keyword(int word) {
            switch (word) {
                case WORD_KEY:
                    return "key";
                case WORD_RUN:
                    return "run";
                case WORD_DROP:
                    return "drop";
                case WORD_SLACK:
                    return "slack";
                case WORD_UPPER:
                    return "upper";
                case WORD_ROOM:
                    return "room";
                default:
                    return "";
            }
        }
    }
}
