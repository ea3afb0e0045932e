import java.math.BigInteger;
import java.util.ArrayList;
import java.util.Arrays;
import java.util.Collections;
import java.util.HashSet;
import java.util.List;
import java.util.Map;
import java.util.Set;
import java.util.TreeMap;
import java.util.TreeSet;
import java.util.regex.Matcher;
import java.util.regex.Pattern;

/**
 * The document once more, as slowly and plainly as can be: row and buffer are kept apart, slopes are found by all
 * pairs, lines are reckoned with whole fractions, tokens are split by a pattern.
 */
final class PlainModel {
    private static final int MOST = 999999999;
    private static final int NONE = -1;
    private static final int NOTHING = -1000000001;
    private static final int[][] BOUNDS =
        {{0, 20}, {0, 20}, {0, 50}, {1, 99}, {2, 99}, {8, 512}, {1, 4}, {0, 99999}};
    private static final Pattern TOKEN = Pattern.compile("[A-Za-z]+|-?[0-9]+|[^ \n]");

    private static final class Piece {
        int first;
        int last;
        BigInteger p;
        BigInteger q;
        BigInteger line;

        int guess(long x) {
            BigInteger[] parts = p.multiply(BigInteger.valueOf(x)).add(line).divideAndRemainder(q);
            BigInteger f = parts[1].signum() < 0 ? parts[0].subtract(BigInteger.ONE) : parts[0];
            if (f.signum() < 0) {
                return 0;
            }
            BigInteger most = BigInteger.valueOf(last + 1);
            return f.min(most).intValueExact();
        }
    }

    private static final class Tier {
        List<Integer> row = new ArrayList<>();
        List<Piece> pieces = new ArrayList<>();
        int slack;

        Piece pieceOf(int place) {
            for (Piece piece : pieces) {
                if (piece.first <= place && place <= piece.last) {
                    return piece;
                }
            }
            return null;
        }
    }

    private static final class Memory {
        TreeMap<Integer, Integer> row = new TreeMap<>();
        TreeMap<Integer, Integer> buffer = new TreeMap<>();
        int[] told = {1, 1, 4, 8, 8, 64, 2, 0};
        int cost;
        List<int[]> done = new ArrayList<>();
        List<int[]> undone = new ArrayList<>();
        Integer[] cells = new Integer[64];
        List<int[]> points = new ArrayList<>();
        List<int[]> boxes = new ArrayList<>();

        Memory copy() {
            Memory m = new Memory();
            m.row.putAll(row);
            m.buffer.putAll(buffer);
            m.told = told.clone();
            m.cost = cost;
            m.done.addAll(done);
            m.undone.addAll(undone);
            m.cells = cells.clone();
            m.points.addAll(points);
            m.boxes.addAll(boxes);
            return m;
        }
    }

    private Memory now = new Memory();
    private Memory taken;
    private final List<Byte> tape = new ArrayList<>();
    private int faultKind;
    private int faultPlace = NONE;
    private int compared;

    int feed(int a, int b, int c, int d, int e) {
        if (tape.size() > 580) {
            return NONE;
        }
        for (int n : new int[] {a, b, c, d, e}) {
            for (int k = 3; k >= 0; k--) {
                tape.add((byte) (n >>> 8 * k));
            }
        }
        return tape.size();
    }

    boolean end(int n) {
        if (n < 0 || n > tape.size()) {
            return false;
        }
        tape.subList(n, tape.size()).clear();
        return true;
    }

    private TreeMap<Integer, Integer> keys() {
        TreeMap<Integer, Integer> all = new TreeMap<>(now.buffer);
        for (Map.Entry<Integer, Integer> e : now.row.entrySet()) {
            if (e.getValue() > 0) {
                all.put(e.getKey(), e.getValue());
            }
        }
        return all;
    }

    private void buildFrom(TreeMap<Integer, Integer> keys) {
        now.row = new TreeMap<>(keys);
        now.buffer = new TreeMap<>();
        now.cost += keys.size();
    }

    private static final class Fault extends Exception {
        private static final long serialVersionUID = 1;
        final int kind;
        final int place;

        Fault(int kind, int place) {
            this.kind = kind;
            this.place = place;
        }
    }

    int text() {
        StringBuilder text = new StringBuilder();
        for (byte b : tape) {
            text.append((char) (b & 255));
        }
        tape.clear();
        faultKind = 0;
        faultPlace = NONE;
        TreeMap<Integer, Integer> keys = keys();
        int[] told = now.told.clone();
        try {
            tell(text.toString(), keys, told);
        } catch (Fault fault) {
            faultKind = fault.kind;
            faultPlace = fault.place;
            return NONE;
        }
        now.told = told;
        now.done.clear();
        now.undone.clear();
        buildFrom(keys);
        return keys.size();
    }

    private List<String> words;
    private List<Integer> places;
    private int at;

    private void tell(String text, TreeMap<Integer, Integer> keys, int[] told) throws Fault {
        words = new ArrayList<>();
        places = new ArrayList<>();
        Matcher m = TOKEN.matcher(text);
        while (m.find()) {
            words.add(m.group());
            places.add(m.start());
        }
        words.add("");
        places.add(text.length());
        at = 0;
        int statements = 0;
        while (!words.get(at).isEmpty()) {
            String word = words.get(at);
            int wordPlace = places.get(at);
            List<String> keywords = Arrays.asList("slack", "upper", "room", "key", "run", "drop");
            if (!keywords.contains(word)) {
                throw new Fault(1, wordPlace);
            }
            statements++;
            if (statements == 61) {
                throw new Fault(3, wordPlace);
            }
            at++;
            int x;
            TreeMap<Integer, Integer> more = new TreeMap<>();
            switch (word) {
                case "key":
                    x = number(-MOST, MOST);
                    more.put(x, words.get(at).matches("-?[0-9]{1,9}") ? number(1, 99) : 1);
                    break;
                case "run":
                    x = number(-MOST, MOST);
                    int n = number(1, 99);
                    int s = number(1, 99999);
                    if (x + (n - 1L) * s > MOST) {
                        throw new Fault(2, places.get(at - 1));
                    }
                    for (int i = 0; i < n; i++) {
                        more.put(x + i * s, 1);
                    }
                    break;
                case "drop":
                    keys.remove(number(-MOST, MOST));
                    break;
                default:
                    int what = keywords.indexOf(word);
                    told[what] = number(BOUNDS[what][0], BOUNDS[what][1]);
                    break;
            }
            for (Map.Entry<Integer, Integer> e : more.entrySet()) {
                keys.merge(e.getKey(), e.getValue(), Integer::sum);
            }
            if (keys.size() > 300 || !keys.isEmpty() && Collections.max(keys.values()) > 99) {
                throw new Fault(3, wordPlace);
            }
            if (!words.get(at).equals(";")) {
                throw new Fault(1, places.get(at));
            }
            at++;
        }
    }

    private int number(int least, int most) throws Fault {
        if (!words.get(at).matches("-?[0-9]{1,9}")) {
            throw new Fault(1, places.get(at));
        }
        int n = Integer.parseInt(words.get(at));
        if (n < least || n > most) {
            throw new Fault(2, places.get(at));
        }
        at++;
        return n;
    }

    int fault(int what) {
        return what == 0 ? faultKind : what == 1 ? faultPlace : NONE;
    }

    boolean set(int what, int v) {
        if (what < 0 || what > 7 || v < BOUNDS[what][0] || v > BOUNDS[what][1]) {
            return false;
        }
        now.told[what] = v;
        if (what < 2) {
            build();
        }
        return true;
    }

    private void setCount(int x, int count) {
        if (now.row.containsKey(x)) {
            now.row.put(x, count);
        } else if (count == 0) {
            now.buffer.remove(x);
        } else {
            now.buffer.put(x, count);
        }
    }

    private void act(int x, int from, int to) {
        now.undone.clear();
        now.done.add(new int[] {x, from, to});
        if (now.done.size() > 20) {
            now.done.remove(0);
        }
    }

    int insert(int x) {
        int c = count(x);
        if (x < -MOST || x > MOST || c == 99 || c == 0 && keys().size() == 300) {
            return NONE;
        }
        act(x, c, c + 1);
        boolean comes = !now.row.containsKey(x) && !now.buffer.containsKey(x);
        if (comes && now.buffer.size() + 1 > now.told[2]) {
            TreeMap<Integer, Integer> all = keys();
            all.put(x, 1);
            buildFrom(all);
        } else {
            setCount(x, c + 1);
        }
        return c + 1;
    }

    int remove(int x) {
        int c = count(x);
        if (c == 0) {
            return NONE;
        }
        act(x, c, c - 1);
        setCount(x, c - 1);
        return c - 1;
    }

    int undo(boolean back) {
        List<int[]> from = back ? now.done : now.undone;
        if (from.isEmpty()) {
            return NOTHING;
        }
        int[] act = from.remove(from.size() - 1);
        (back ? now.undone : now.done).add(act);
        setCount(act[0], back ? act[1] : act[2]);
        return act[0];
    }

    int build() {
        now.done.clear();
        now.undone.clear();
        buildFrom(keys());
        return now.row.size();
    }

    int count(int x) {
        return keys().getOrDefault(x, 0);
    }

    int key(int i) {
        List<Integer> all = new ArrayList<>(keys().keySet());
        return i >= 0 && i < all.size() ? all.get(i) : NOTHING;
    }

    int rank(int x) {
        return keys().headMap(x).size();
    }

    long range(int a, int b, int what) {
        if (what < 0 || what > 2) {
            return NONE;
        }
        long sum = 0;
        for (Map.Entry<Integer, Integer> e : keys().entrySet()) {
            if (e.getKey() >= a && e.getKey() <= b) {
                sum += what == 0 ? 1 : what == 1 ? e.getValue() : (long) e.getKey() * e.getValue();
            }
        }
        return sum;
    }

    /** Slopes p / q that all pairs of places from first to last allow: the least and the greatest; null if none. */
    private static Piece fit(List<Integer> row, int first, int last, int slack) {
        long lowP = 0;
        long lowQ = 1;
        long highP = 1L << 31;
        long highQ = 1;
        for (int u = first; u <= last; u++) {
            for (int v = u + 1; v <= last; v++) {
                long run = (long) row.get(v) - row.get(u);
                long least = v - u - 2L * slack;
                long most = v - u + 2L * slack;
                if (least * lowQ > lowP * run) {
                    lowP = least;
                    lowQ = run;
                }
                if (most * highQ < highP * run) {
                    highP = most;
                    highQ = run;
                }
            }
        }
        if (lowP * highQ > highP * lowQ) {
            return null;
        }
        Piece piece = new Piece();
        piece.first = first;
        piece.last = last;
        BigInteger p = BigInteger.valueOf(lowP);
        BigInteger q = BigInteger.valueOf(lowQ);
        piece.p = p.divide(p.gcd(q));
        piece.q = q.divide(p.gcd(q));
        for (int i = first; i <= last; i++) {
            BigInteger c = piece.q.multiply(BigInteger.valueOf(i - slack))
                .subtract(piece.p.multiply(BigInteger.valueOf(row.get(i))));
            piece.line = piece.line == null ? c : piece.line.max(c);
        }
        return piece;
    }

    private static Tier coverRow(List<Integer> row, int slack) {
        Tier tier = new Tier();
        tier.row = row;
        tier.slack = slack;
        int first = 0;
        while (first < row.size()) {
            Piece piece = fit(row, first, first, slack);
            for (int last = first + 1; last < row.size(); last++) {
                Piece longer = fit(row, first, last, slack);
                if (longer == null) {
                    break;
                }
                piece = longer;
            }
            tier.pieces.add(piece);
            first = piece.last + 1;
        }
        return tier;
    }

    private static List<Tier> coverAll(List<Integer> row, int slack, int upper) {
        List<Tier> tiers = new ArrayList<>();
        if (row.isEmpty()) {
            return tiers;
        }
        tiers.add(coverRow(row, slack));
        while (tiers.get(tiers.size() - 1).pieces.size() > 1) {
            Tier top = tiers.get(tiers.size() - 1);
            List<Integer> firsts = new ArrayList<>();
            for (Piece piece : top.pieces) {
                firsts.add(top.row.get(piece.first));
            }
            tiers.add(coverRow(firsts, upper));
        }
        return tiers;
    }

    private List<Integer> coveredRow = null;
    private int coveredSlack;
    private int coveredUpper;
    private List<Tier> covered;

    private List<Tier> tiers() {
        List<Integer> row = new ArrayList<>(now.row.keySet());
        if (!row.equals(coveredRow) || coveredSlack != now.told[0] || coveredUpper != now.told[1]) {
            coveredRow = row;
            coveredSlack = now.told[0];
            coveredUpper = now.told[1];
            covered = coverAll(row, coveredSlack, coveredUpper);
        }
        return covered;
    }

    private Piece pieceAt(int level, int i) {
        List<Tier> tiers = tiers();
        if (level < 0 || level >= tiers.size() || i < 0 || i >= tiers.get(level).pieces.size()) {
            return null;
        }
        return tiers.get(level).pieces.get(i);
    }

    int piece(int level, int i, int what) {
        Piece piece = pieceAt(level, i);
        if (piece == null || what < 0 || what > 4) {
            return NOTHING;
        }
        int[] all = {piece.first, piece.last, piece.p.intValueExact(), piece.q.intValueExact(),
            tiers().get(level).row.get(piece.first)};
        return all[what];
    }

    int guess(int level, int i, int x) {
        Piece piece = pieceAt(level, i);
        return piece == null ? NONE : piece.guess(x);
    }

    private int halve(List<Integer> row, int low, int high, int x, boolean orSame) {
        while (low < high) {
            int mid = (low + high) / 2;
            compared++;
            if (row.get(mid) < x || orSame && row.get(mid) == x) {
                low = mid + 1;
            } else {
                high = mid;
            }
        }
        return low;
    }

    private int find(List<Tier> tiers, int x) {
        compared = 0;
        int answer = 0;
        for (int l = tiers.size() - 1; l >= 0; l--) {
            Tier tier = tiers.get(l);
            // The piece in which the last first key not above x lies, by looking at all of them.
            Piece piece = tier.pieces.get(0);
            for (Piece other : tier.pieces) {
                if (tier.row.get(other.first) <= x) {
                    piece = other;
                }
            }
            int g = piece.guess(x);
            int low = Math.max(0, g - tier.slack - 1);
            int high = Math.min(tier.row.size(), g + tier.slack + 2);
            answer = halve(tier.row, low, high, x, l > 0);
        }
        return answer;
    }

    int seek(int x, int what) {
        if (what < 0 || what > 2) {
            return NONE;
        }
        if (what == 2) {
            compared = 0;
            halve(new ArrayList<>(now.row.keySet()), 0, now.row.size(), x, false);
            return compared;
        }
        find(tiers(), x);
        return what == 0 ? now.row.headMap(x).size() : compared;
    }

    int pages(int what) {
        List<Tier> tiers = tiers();
        int n = now.row.size();
        int sum = 0;
        for (int i = 0; i < n; i++) {
            if (what == 0) {
                int g = tiers.get(0).pieceOf(i).guess(tiers.get(0).row.get(i));
                Set<Integer> read = new HashSet<>();
                for (int at = Math.max(0, g - now.told[0]); at <= Math.min(n - 1, g + now.told[0]); at++) {
                    read.add(at / now.told[3]);
                }
                sum += read.size() + tiers.size();
            } else {
                int h = 0;
                while (BigInteger.valueOf(now.told[4]).pow(h).intValue() < n) {
                    h++;
                }
                sum += h + 1;
            }
        }
        return what == 0 || what == 1 ? sum : NONE;
    }

    int errors(int level, int what) {
        if (level < 0 || level >= tiers().size() || what < 0 || what > 2) {
            return NONE;
        }
        Tier tier = tiers().get(level);
        List<Integer> off = new ArrayList<>();
        int sum = 0;
        for (int i = 0; i < tier.row.size(); i++) {
            off.add(Math.abs(tier.pieceOf(i).guess(tier.row.get(i)) - i));
            sum += off.get(i);
        }
        int greatest = Collections.max(off);
        return what == 0 ? greatest : what == 1 ? sum : off.indexOf(greatest);
    }

    int bestSlack(int what) {
        if (what != 0 && what != 1) {
            return NONE;
        }
        List<Integer> row = new ArrayList<>(now.row.keySet());
        int best = 0;
        int fewest = Integer.MAX_VALUE;
        for (int e = 20; e >= 0; e--) {
            List<Tier> tiers = coverAll(row, e, now.told[1]);
            int sum = 0;
            for (Tier tier : tiers) {
                sum += tier.pieces.size();
            }
            for (int x : row) {
                find(tiers, x);
                sum += compared;
            }
            if (sum <= fewest) {
                best = e;
                fewest = sum;
            }
        }
        return what == 0 ? best : fewest;
    }

    int lay() {
        now.cells = new Integer[64];
        List<Integer> all = new ArrayList<>(keys().keySet());
        int n = Math.min(48, all.size());
        for (int i = 0; i < n; i++) {
            now.cells[64 * i / n] = all.get(i);
        }
        return n;
    }

    int put(int x) {
        List<Integer> cells = Arrays.asList(now.cells);
        if (x < -MOST || x > MOST || cells.contains(x) || !cells.contains(null)) {
            return NONE;
        }
        int a = -1;
        int b = 64;
        for (int i = 0; i < 64; i++) {
            if (now.cells[i] != null && now.cells[i] < x) {
                a = i;
            }
            if (now.cells[i] != null && now.cells[i] > x && b == 64) {
                b = i;
            }
        }
        if (b - a > 1) {
            now.cells[(a + b) / 2] = x;
            return 0;
        }
        for (int far = 1;; far++) {
            if (a - far >= 0 && now.cells[a - far] == null) {
                for (int i = a - far; i < a; i++) {
                    now.cells[i] = now.cells[i + 1];
                }
                now.cells[a] = x;
                return far;
            }
            if (b + far <= 63 && now.cells[b + far] == null) {
                for (int i = b + far; i > b; i--) {
                    now.cells[i] = now.cells[i - 1];
                }
                now.cells[b] = x;
                return far;
            }
        }
    }

    int cell(int i) {
        return i < 0 || i > 63 || now.cells[i] == null ? NOTHING : now.cells[i];
    }

    int poison(int what) {
        if (what != 0 && what != 1) {
            return NONE;
        }
        TreeSet<Integer> all = new TreeSet<>(keys().keySet());
        TreeSet<Integer> beside = new TreeSet<>();
        for (int x : all) {
            beside.add(x - 1);
            beside.add(x + 1);
        }
        beside.removeAll(all);
        beside.remove(MOST + 1);
        beside.remove(-MOST - 1);
        int worst = NOTHING;
        int most = 0;
        for (int x : beside) {
            TreeSet<Integer> row = new TreeSet<>(all);
            row.add(x);
            int pieces = coverRow(new ArrayList<>(row), now.told[0]).pieces.size();
            if (pieces > most) {
                most = pieces;
                worst = x;
            }
        }
        return what == 0 ? worst : most;
    }

    private Set<Integer> hashes(int x) {
        Set<Integer> all = new HashSet<>();
        for (int h = 0; h < now.told[6]; h++) {
            BigInteger n = BigInteger.valueOf(x).add(BigInteger.valueOf(1000000000))
                .multiply(BigInteger.valueOf(40503 + 2 * h)).add(BigInteger.valueOf(977 * h));
            all.add(n.mod(BigInteger.valueOf(Integer.MAX_VALUE)).mod(BigInteger.valueOf(now.told[5])).intValueExact());
        }
        return all;
    }

    boolean passes(int x, boolean learnt) {
        return passing(x, x, learnt).contains(x);
    }

    private Set<Integer> passing(int a, int b, boolean learnt) {
        List<Integer> all = new ArrayList<>(keys().keySet());
        List<List<Integer>> spans = new ArrayList<>();
        for (int i = 0; i < all.size(); i++) {
            if (i == 0 || !learnt || all.get(i) - all.get(i - 1) > now.told[7]) {
                spans.add(new ArrayList<>());
            }
            spans.get(spans.size() - 1).add(all.get(i));
        }
        Set<Integer> bits = new HashSet<>();
        for (List<Integer> span : spans) {
            if (span.size() == 1) {
                bits.addAll(hashes(span.get(0)));
            }
        }
        Set<Integer> passing = new HashSet<>();
        for (long n = a; n <= b; n++) {
            int x = (int) n;
            boolean lies = false;
            for (List<Integer> span : spans) {
                lies |= span.size() > 1 && span.get(0) <= x && x <= span.get(span.size() - 1);
            }
            if (x >= -MOST && x <= MOST && (lies || bits.containsAll(hashes(x)))) {
                passing.add(x);
            }
        }
        return passing;
    }

    int falses(int a, int b, boolean learnt) {
        if (b < a || (long) b - a >= 5000) {
            return NONE;
        }
        Set<Integer> passing = passing(a, b, learnt);
        passing.removeAll(keys().keySet());
        return passing.size();
    }

    private static boolean on(int... numbers) {
        for (int n : numbers) {
            if (n < 0 || n > 31) {
                return false;
            }
        }
        return true;
    }

    int point(int x, int y) {
        if (!on(x, y) || now.points.size() == 100) {
            return NONE;
        }
        now.points.add(new int[] {x, y});
        return now.points.size() - 1;
    }

    int box(int x0, int y0, int x1, int y1) {
        if (!on(x0, y0, x1, y1) || x0 > x1 || y0 > y1 || now.boxes.size() == 8) {
            return NONE;
        }
        now.boxes.add(new int[] {x0, y0, x1, y1});
        return now.boxes.size() - 1;
    }

    private static int numberBy(int order, int x, int y) {
        if (order == 0) {
            return 32 * y + x;
        }
        if (order == 2) {
            return y % 2 == 1 ? 32 * y + 31 - x : 32 * y + x;
        }
        StringBuilder bits = new StringBuilder();
        for (int b = 4; b >= 0; b--) {
            bits.append(y >> b & 1).append(x >> b & 1);
        }
        return Integer.parseInt(bits.toString(), 2);
    }

    int boxed(int box, int what) {
        if (box < 0 || box >= now.boxes.size() || what < 0 || what > 3) {
            return NONE;
        }
        int[] b = now.boxes.get(box);
        TreeSet<Integer> numbers = new TreeSet<>();
        for (int x = b[0]; x <= b[2]; x++) {
            for (int y = b[1]; y <= b[3]; y++) {
                numbers.add(numberBy(Math.max(0, what - 1), x, y));
            }
        }
        int many = 0;
        for (int[] p : now.points) {
            int n = numberBy(Math.max(0, what - 1), p[0], p[1]);
            if (what == 0 ? numbers.contains(n) : n >= numbers.first() && n <= numbers.last()) {
                many++;
            }
        }
        return many;
    }

    int bestOrder() {
        int[] read = new int[3];
        for (int b = 0; b < now.boxes.size(); b++) {
            for (int o = 0; o < 3; o++) {
                read[o] += boxed(b, o + 1);
            }
        }
        return read[0] <= read[1] && read[0] <= read[2] ? 0 : read[1] <= read[2] ? 1 : 2;
    }

    boolean image(boolean take) {
        if (take) {
            taken = now.copy();
        } else if (taken != null) {
            now = taken.copy();
        }
        return taken != null;
    }

    int look(int what) {
        if (what >= 20 && what <= 27) {
            return now.told[what - 20];
        }
        if (what >= 10 && what <= 19) {
            return what - 10 < tiers().size() ? tiers().get(what - 10).pieces.size() : NONE;
        }
        int gone = Collections.frequency(now.row.values(), 0);
        int[] all = {keys().size(), now.row.size(), now.buffer.size(), gone, tiers().size(), now.cost,
            now.done.size(), now.undone.size(), now.points.size(), now.boxes.size()};
        return what >= 0 && what < 10 ? all[what] : NONE;
    }
}
