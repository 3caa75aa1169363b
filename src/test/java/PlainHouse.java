import java.util.ArrayList;
import java.util.Arrays;
import java.util.List;
import java.util.TreeSet;

/**
 * The document's words once more, in the slowest and plainest way and with nothing of the program's
 * tricks (no sets of worlds as bits, no short cuts), so that the two can be held against each other.
 */
final class PlainHouse {
    static final int UNKNOWN = -1, OUTSIDE = -2, STATE = -3, FULL = -4, NONE = -9;

    /** What acts change. */
    static final class Now {
        int[][] lines = new int[0][];
        int picture = NONE;
        boolean[] sung = new boolean[0];
        List<Integer> picked = new ArrayList<>();
        boolean wed = false;

        Now copy() {
            Now other = new Now();
            other.lines = new int[lines.length][];
            for (int i = 0; i < lines.length; i++) {
                other.lines[i] = lines[i].clone();
            }
            other.picture = picture;
            other.sung = sung.clone();
            other.picked = new ArrayList<>(picked);
            other.wed = wed;
            return other;
        }
    }

    String text = "";
    int truth = 9;
    int[] metals = new int[0];
    int[] kinds = new int[0];
    Now now = new Now();
    List<Now> before = new ArrayList<>();
    Now[] kept = new Now[2];
    long seed = 0;

    // ---- the house

    int write(int letter) {
        if (letter < 0 || letter > 255) {
            return OUTSIDE;
        }
        if (text.length() == 40) {
            return FULL;
        }
        text += (char) letter;
        return text.length();
    }

    int wipe() {
        int was = text.length();
        text = "";
        return was;
    }

    static boolean isHouse(String t) {
        if (!t.matches("G[0-49]([CD][0-3][0-5][0-3]|W[0-3])*")) {
            return false;
        }
        String parts = t.substring(2);
        long caskets = parts.chars().filter(c -> c == 'C' || c == 'D').count();
        return caskets <= 4 && parts.chars().filter(c -> c == 'D').count() <= 1
            && parts.chars().filter(c -> c == 'W').count() <= 6;
    }

    /** Whether some letters behind t make it a house: all that a started part can want is a few noughts. */
    static boolean canBecomeHouse(String t) {
        String[] ends = {"", "0", "00", "000", "G9", "9"};
        for (String end : ends) {
            if (isHouse(t + end)) {
                return true;
            }
        }
        return t.isEmpty();
    }

    int fault() {
        if (isHouse(text)) {
            return NONE;
        }
        for (int n = 1; n <= text.length(); n++) {
            if (!canBecomeHouse(text.substring(0, n))) {
                return n - 1;
            }
        }
        return text.length();
    }

    int house() {
        if (!isHouse(text)) {
            return STATE;
        }
        truth = text.charAt(1) - '0';
        now = new Now();
        List<Integer> m = new ArrayList<>();
        List<Integer> k = new ArrayList<>();
        List<int[]> l = new ArrayList<>();
        for (int i = 2; i < text.length();) {
            char part = text.charAt(i);
            if (part == 'W') {
                k.add(text.charAt(i + 1) - '0');
                i += 2;
            } else {
                if (part == 'D') {
                    now.picture = m.size();
                }
                m.add(text.charAt(i + 1) - '0');
                l.add(new int[] {text.charAt(i + 2) - '0', text.charAt(i + 3) - '0'});
                i += 4;
            }
        }
        metals = m.stream().mapToInt(Integer::intValue).toArray();
        kinds = k.stream().mapToInt(Integer::intValue).toArray();
        now.lines = l.toArray(new int[0][]);
        now.sung = new boolean[metals.length];
        before.clear();
        kept = new Now[2];
        return 10 * metals.length + kinds.length;
    }

    boolean noCasket(int c) {
        return c < 0 || c >= metals.length;
    }

    boolean noWooer(int w) {
        return w < 0 || w >= kinds.length;
    }

    // ---- readings

    boolean saysSo(int[][] lines, int i, int picture, boolean[] set) {
        int a = lines[i][1];
        boolean there = a < lines.length;
        switch (lines[i][0]) {
            case 0: return picture == i;
            case 1: return picture != i;
            case 2: return there && picture == a;
            case 3: return !there || picture != a;
            case 4: return there && set[a];
            default: return !there || !set[a];
        }
    }

    /** Each reading: the casket first, then for each line 1 if it is true; only lines that bind must agree. */
    List<int[]> readings(int[][] lines, boolean[] binds) {
        List<int[]> all = new ArrayList<>();
        int n = lines.length;
        for (int c = 0; c < n; c++) {
            for (int bits = 0; bits < 1 << n; bits++) {
                boolean[] set = new boolean[n];
                int many = 0;
                for (int i = 0; i < n; i++) {
                    set[i] = (bits >> i) % 2 == 1;
                    many += set[i] ? 1 : 0;
                }
                boolean good = truth == 9 || truth == many;
                for (int i = 0; i < n; i++) {
                    if (binds[i] && set[i] != saysSo(lines, i, c, set)) {
                        good = false;
                    }
                }
                if (good) {
                    int[] reading = new int[n + 1];
                    reading[0] = c;
                    for (int i = 0; i < n; i++) {
                        reading[i + 1] = set[i] ? 1 : 0;
                    }
                    all.add(reading);
                }
            }
        }
        return all;
    }

    List<int[]> readings(int[][] lines) {
        boolean[] binds = new boolean[lines.length];
        Arrays.fill(binds, true);
        return readings(lines, binds);
    }

    static TreeSet<Integer> caskets(List<int[]> readings) {
        TreeSet<Integer> fits = new TreeSet<>();
        for (int[] reading : readings) {
            fits.add(reading[0]);
        }
        return fits;
    }

    TreeSet<Integer> fits() {
        return caskets(readings(now.lines));
    }

    int pick(int kind, TreeSet<Integer> fits, boolean[] sung) {
        TreeSet<Integer> open = new TreeSet<>();
        for (int c = 0; c < sung.length; c++) {
            if (!sung[c]) {
                open.add(c);
            }
        }
        if (open.isEmpty()) {
            return NONE;
        }
        TreeSet<Integer> both = new TreeSet<>(fits);
        both.retainAll(open);
        if (kind == 1) {
            int best = open.first();
            for (int c : open) {
                if (metals[c] < metals[best]) {
                    best = c;
                }
            }
            return best;
        }
        if (kind >= 2 && !both.isEmpty()) {
            return kind == 2 ? both.first() : both.last();
        }
        return open.first();
    }

    int casket(int c, int what) {
        if (noCasket(c)) {
            return UNKNOWN;
        }
        if (what < 0 || what > 5) {
            return OUTSIDE;
        }
        int with = 0;
        for (int[] reading : readings(now.lines)) {
            with += reading[0] == c ? 1 : 0;
        }
        int[] answers = {metals[c], now.lines[c][0], now.lines[c][1], now.sung[c] ? 1 : 0,
            fits().contains(c) ? 1 : 0, with};
        return answers[what];
    }

    int wooer(int w, int what) {
        if (noWooer(w)) {
            return UNKNOWN;
        }
        if (what < 0 || what > 2) {
            return OUTSIDE;
        }
        int[] answers = {kinds[w], pick(kinds[w], fits(), now.sung),
            w < now.picked.size() ? now.picked.get(w) : NONE};
        return answers[what];
    }

    // ---- acts

    void remember() {
        before.add(now.copy());
        if (before.size() > 14) {
            before.remove(0);
        }
    }

    int attempt() {
        if (now.wed || now.picked.size() == kinds.length) {
            return STATE;
        }
        remember();
        int p = pick(kinds[now.picked.size()], fits(), now.sung);
        now.picked.add(p);
        now.wed = p >= 0 && p == now.picture;
        return p;
    }

    int mend(int c, int sort, int a) {
        if (noCasket(c)) {
            return UNKNOWN;
        }
        if (sort < 0 || sort > 5 || a < 0 || a > 3) {
            return OUTSIDE;
        }
        int was = 10 * now.lines[c][0] + now.lines[c][1];
        if (was == 10 * sort + a) {
            return STATE;
        }
        remember();
        now.lines[c] = new int[] {sort, a};
        return was;
    }

    int move(int c) {
        if (noCasket(c)) {
            return UNKNOWN;
        }
        if (now.picture == c) {
            return STATE;
        }
        remember();
        int was = now.picture;
        now.picture = c;
        return was;
    }

    int sing(int c) {
        if (noCasket(c)) {
            return UNKNOWN;
        }
        remember();
        now.sung[c] = !now.sung[c];
        return now.sung[c] ? 1 : 0;
    }

    int undo() {
        if (before.isEmpty()) {
            return STATE;
        }
        now = before.remove(before.size() - 1);
        return before.size();
    }

    // ---- riddles

    int lines(int c, boolean every) {
        if (noCasket(c)) {
            return UNKNOWN;
        }
        int all = -1;
        int some = 0;
        int many = 0;
        for (int[] reading : readings(now.lines)) {
            if (reading[0] == c) {
                int bits = 0;
                for (int i = 1; i < reading.length; i++) {
                    bits += reading[i] << (i - 1);
                }
                all &= bits;
                some |= bits;
                many++;
            }
        }
        return many == 0 ? NONE : every ? all : some;
    }

    boolean solves(int wanted, int[][] lines) {
        TreeSet<Integer> fits = caskets(readings(lines));
        for (int kind = 0; kind < 4; kind++) {
            boolean right = pick(kind, fits, now.sung) == now.picture;
            if (right != ((wanted >> kind) % 2 == 1)) {
                return false;
            }
        }
        return true;
    }

    int[][] with(int[][] lines, int c, int line) {
        int[][] other = lines.clone();
        other[c] = new int[] {line / 10, line % 10};
        return other;
    }

    static boolean isLine(int line) {
        return line / 10 <= 5 && line % 10 <= 3;
    }

    int riddle(int wanted, boolean row) {
        if (wanted < 0 || wanted > 15) {
            return OUTSIDE;
        }
        if (now.picture == NONE) {
            return NONE;
        }
        if (solves(wanted, now.lines)) {
            return 0;
        }
        // All rows of figures in their order as numbers, so that the first that does is the least.
        for (int first = 0; first < 1000; first++) {
            if (first / 100 < metals.length && isLine(first % 100)
                && solves(wanted, with(now.lines, first / 100, first % 100))) {
                return row ? first : 1;
            }
        }
        for (int first = 0; first < 1000; first++) {
            if (first / 100 >= metals.length || !isLine(first % 100)) {
                continue;
            }
            int[][] once = with(now.lines, first / 100, first % 100);
            for (int second = 0; second < 1000; second++) {
                if (second / 100 < metals.length && second / 100 != first / 100 && isLine(second % 100)
                    && solves(wanted, with(once, second / 100, second % 100))) {
                    return row ? 1000 * first + second : 2;
                }
            }
        }
        return NONE;
    }

    int songs(int w) {
        if (noWooer(w)) {
            return UNKNOWN;
        }
        if (now.picture == NONE) {
            return NONE;
        }
        for (int many = 0; many <= metals.length; many++) {
            for (int bits = 0; bits < 1 << metals.length; bits++) {
                boolean[] sung = now.sung.clone();
                int n = 0;
                for (int c = 0; c < sung.length; c++) {
                    if ((bits >> c) % 2 == 1) {
                        sung[c] = true;
                        n++;
                    }
                }
                if (n == many && pick(kinds[w], fits(), sung) == now.picture) {
                    return bits;
                }
            }
        }
        return NONE;
    }

    int said(int c, boolean first) {
        if (noCasket(c)) {
            return UNKNOWN;
        }
        List<Integer> good = new ArrayList<>();
        for (int line = 0; line < 100; line++) {
            if (isLine(line)) {
                TreeSet<Integer> fits = caskets(readings(with(now.lines, c, line)));
                if (fits.size() == 1 && fits.first() == now.picture) {
                    good.add(line);
                }
            }
        }
        return !first ? good.size() : good.isEmpty() ? NONE : good.get(0);
    }

    static int fraction(long above, long below, boolean upper) {
        if (below == 0) {
            return upper ? 0 : 1;
        }
        for (long d = below; d > 1; d--) {
            if (above % d == 0 && below % d == 0) {
                above /= d;
                below /= d;
            }
        }
        return (int) (upper ? above : below);
    }

    int belief(int c, int f, boolean upper) {
        if (noCasket(c)) {
            return UNKNOWN;
        }
        if (f < 0 || f > 5) {
            return OUTSIDE;
        }
        TreeSet<Integer> fits = fits();
        int[] picks = new int[4];
        for (int kind = 0; kind < 4; kind++) {
            picks[kind] = pick(kind, fits, now.sung);
        }
        long mine = 0;
        long all = 0;
        // Every row of f kinds is as likely as any other: count those that all miss.
        for (int place : fits) {
            for (int rowOfKinds = 0; rowOfKinds < Math.pow(4, f); rowOfKinds++) {
                boolean missed = true;
                int left = rowOfKinds;
                for (int i = 0; i < f; i++) {
                    missed &= picks[left % 4] != place;
                    left /= 4;
                }
                all += missed ? 1 : 0;
                mine += missed && place == c ? 1 : 0;
            }
        }
        return fraction(mine, all, upper);
    }

    int judge(int n, int row) {
        if (n < 1 || n > 4 || row < 0 || String.valueOf(row).length() > 2 * n) {
            return OUTSIDE;
        }
        String figures = String.format("%0" + 2 * n + "d", row);
        Now was = now.copy();
        List<Now> acts = new ArrayList<>(before);
        int answer = NONE;
        for (int i = 0; i < n && answer == NONE; i++) {
            char doing = figures.charAt(2 * i);
            int c = figures.charAt(2 * i + 1) - '0';
            int done = UNKNOWN;
            if (doing == '0' && c == 0) {
                done = attempt();
                done = done == NONE ? 0 : done;
            } else if (doing == '1') {
                done = move(c);
                done = done == NONE ? 0 : done;
            } else if (doing == '2') {
                done = sing(c);
            }
            answer = done < 0 ? i : NONE;
        }
        now = was;
        before = acts;
        return answer;
    }

    // ---- shares, rests, chances

    int out(boolean[] come) {
        return metals.length - caskets(readings(now.lines, come)).size();
    }

    int share(int c, boolean upper) {
        if (noCasket(c)) {
            return UNKNOWN;
        }
        long[] sum = new long[2];
        goThrough(new ArrayList<>(), c, sum);
        return fraction(sum[0], sum[1], upper);
    }

    private void goThrough(List<Integer> order, int c, long[] sum) {
        if (order.size() == metals.length) {
            boolean[] come = new boolean[metals.length];
            for (int line : order) {
                int were = out(come);
                come[line] = true;
                if (line == c) {
                    sum[0] += out(come) - were;
                    sum[1]++;
                }
            }
            return;
        }
        for (int line = 0; line < metals.length; line++) {
            if (!order.contains(line)) {
                order.add(line);
                goThrough(order, c, sum);
                order.remove(order.size() - 1);
            }
        }
    }

    private int has(int own, int other, TreeSet<Integer> fits) {
        if (own == 0) {
            return 0;
        }
        int brings = fits.contains(own - 1) ? 12 / fits.size() : 0;
        return (own == other ? brings / 2 : brings) - 2;
    }

    int rests(int what) {
        if (what < 0 || what > 1) {
            return OUTSIDE;
        }
        TreeSet<Integer> fits = fits();
        List<Integer> good = new ArrayList<>();
        for (int one = 0; one <= metals.length; one++) {
            for (int other = 0; other <= metals.length; other++) {
                boolean rests = true;
                for (int then = 0; then <= metals.length; then++) {
                    rests &= has(then, other, fits) <= has(one, other, fits);
                    rests &= has(then, one, fits) <= has(other, one, fits);
                }
                if (rests) {
                    good.add(10 * one + other);
                }
            }
        }
        return what == 0 ? good.size() : good.get(0);
    }

    int lost(int c, int x, boolean upper) {
        if (noCasket(c)) {
            return UNKNOWN;
        }
        if (x < 0 || x > 10) {
            return OUTSIDE;
        }
        long above = 0;
        long below = 1;
        for (int i = 0; i < metals.length; i++) {
            below *= 10;
        }
        for (int bits = 0; bits < 1 << metals.length; bits++) {
            boolean[] left = new boolean[metals.length];
            long chance = 1;
            for (int i = 0; i < metals.length; i++) {
                left[i] = (bits >> i) % 2 == 1;
                chance *= left[i] ? 10 - x : x;
            }
            TreeSet<Integer> fits = caskets(readings(now.lines, left));
            if (fits.size() == 1 && fits.first() == c) {
                above += chance;
            }
        }
        return fraction(above, below, upper);
    }

    long seed(long v) {
        long was = seed;
        seed = v;
        return was;
    }

    int houses(int m) {
        if (m < 1 || m > 20) {
            return OUTSIDE;
        }
        int[][] lines = now.lines.clone();
        int sum = 0;
        for (int i = 0; i < m; i++) {
            seed = seed * 6364136223846793005L + 1442695040888963407L;
            int r = (int) (seed >>> 33) % 96;
            if (r / 24 < lines.length) {
                lines[r / 24] = new int[] {r % 24 / 4, r % 24 % 4};
            }
            sum += caskets(readings(lines)).size();
        }
        return sum;
    }

    // ---- slots

    int keep(int slot) {
        if (slot != 0 && slot != 1) {
            return UNKNOWN;
        }
        kept[slot] = now.copy();
        return now.picked.size();
    }

    int again(int slot) {
        if (slot != 0 && slot != 1) {
            return UNKNOWN;
        }
        if (kept[slot] == null) {
            return STATE;
        }
        now = kept[slot].copy();
        before.clear();
        return now.picked.size();
    }

    int count(int what) {
        if (what < 0 || what > 9) {
            return OUTSIDE;
        }
        int bits = 0;
        for (int c : fits()) {
            bits += 1 << c;
        }
        int[] answers = {text.length(), metals.length, kinds.length, truth, now.picture, bits,
            readings(now.lines).size(), now.picked.size(), now.wed ? 1 : 0, before.size()};
        return answers[what];
    }
}
