import java.math.BigInteger;
import java.util.ArrayList;
import java.util.Arrays;
import java.util.List;
import java.util.TreeSet;
import java.util.regex.Matcher;
import java.util.regex.Pattern;

/**
 * The document once more, as slowly and plainly as can be and by other means
 * than the class (a list for each bucket, beginnings as texts, BigInteger), so
 * that a slip in one of the two shows.
 */
final class Model {
    static final int NONE = -1, UNKNOWN = -2, OUTSIDE = -3, NOT = -4, FULL = -5, NULL = -11, INDEX = -12, SIZE = -13, OVER = -14;

    static final class Bucket {
        int mark;
        TreeSet<Integer> keys = new TreeSet<>();

        Bucket(int mark) {
            this.mark = mark;
        }

        Bucket copy() {
            Bucket b = new Bucket(mark);
            b.keys.addAll(keys);
            return b;
        }
    }

    static final class State {
        int bits = 8, size = 2, splits, joins;
        List<Bucket> buckets = new ArrayList<>(List.of(new Bucket(255)));

        State copy() {
            State s = new State();
            s.bits = bits;
            s.size = size;
            s.splits = splits;
            s.joins = joins;
            s.buckets = new ArrayList<>();
            for (Bucket b : buckets) {
                s.buckets.add(b.copy());
            }
            return s;
        }

        int top() {
            return (1 << bits) - 1;
        }

        TreeSet<Integer> keys() {
            TreeSet<Integer> all = new TreeSet<>();
            for (Bucket b : buckets) {
                all.addAll(b.keys);
            }
            return all;
        }

        int home(int x) {
            int i = 0;
            while (buckets.get(i).mark < x) {
                i++;
            }
            return i;
        }

        void put(int key) {
            if (keys().contains(key) || keys().size() == 96) {
                return;
            }
            int i = home(key);
            buckets.get(i).keys.add(key);
            if (buckets.get(i).keys.size() > 4 * size) {
                split(i);
            }
        }

        void take(int key) {
            if (!keys().contains(key)) {
                return;
            }
            int i = home(key);
            buckets.get(i).keys.remove(key);
            if (buckets.get(i).keys.size() < size && buckets.size() > 1) {
                int first = i + 1 < buckets.size() ? i : i - 1;
                Bucket one = new Bucket(Math.max(buckets.get(first).mark, buckets.get(first + 1).mark));
                one.keys.addAll(buckets.get(first).keys);
                one.keys.addAll(buckets.get(first + 1).keys);
                buckets.remove(first);
                buckets.set(first, one);
                joins++;
                if (one.keys.size() > 3 * size) {
                    split(first);
                }
            }
        }

        void split(int i) {
            Bucket whole = buckets.get(i);
            int half = whole.keys.size() / 2;
            Bucket lesser = new Bucket(0);
            for (int j = 0; j < half; j++) {
                lesser.keys.add(whole.keys.pollFirst());
            }
            lesser.mark = lesser.keys.last();
            buckets.add(i, lesser);
            splits++;
        }

        void fill(int a, int d, int n) {
            for (int j = 0; j < n; j++) {
                if (a + j * d <= top()) {
                    put(a + j * d);
                }
            }
        }

        String text(int number, int length) {
            StringBuilder s = new StringBuilder();
            for (int j = length - 1; j >= 0; j--) {
                s.append((number >> j) & 1);
            }
            return s.toString();
        }

        TreeSet<String> beginnings(int l) {
            TreeSet<String> all = new TreeSet<>();
            for (Bucket b : buckets) {
                all.add(text(b.mark, bits).substring(0, l));
            }
            return all;
        }

        /** PROBES, LINKS, LOOKS, LENGTH, BUCKET. */
        int[] search(int x) {
            String sign = text(x, bits);
            int low = 0, high = bits, probes = 0;
            while (low < high) {
                int middle = low + (high - low) - (high - low) / 2;
                probes++;
                boolean found = false;
                for (Bucket b : buckets) {
                    found |= text(b.mark, bits).startsWith(sign.substring(0, middle));
                }
                if (found) {
                    low = middle;
                } else {
                    high = middle - 1;
                }
            }
            int links = low < bits && sign.charAt(low) == '1' ? 1 : 0;
            List<Integer> row = new ArrayList<>(buckets.get(home(x)).keys);
            int from = 0, to = row.size(), looks = 0;
            while (from < to) {
                int middle = from + (to - from) / 2;
                looks++;
                if (row.get(middle) < x) {
                    from = middle + 1;
                } else {
                    to = middle;
                }
            }
            return new int[] {probes, links, looks, low, home(x)};
        }

        int cost(int x) {
            int[] s = search(x);
            return s[0] + s[1] + s[2];
        }
    }

    State state = new State();
    StringBuilder text = new StringBuilder();
    List<State> past = new ArrayList<>();
    State[] kept = new State[2];
    long[][] rows = new long[3][];
    long asked = 0;

    private boolean in(long v, long least, long most) {
        return v >= least && v <= most;
    }

    int write(int letter) {
        if (!in(letter, 0, 255)) {
            return OUTSIDE;
        }
        if (text.length() == 200) {
            return FULL;
        }
        text.append((char) letter);
        return text.length();
    }

    int erase() {
        int n = text.length();
        text.setLength(0);
        return n;
    }

    private static final Pattern TOKEN = Pattern.compile("[a-z]+|[0-9]+|[^ ]", Pattern.DOTALL);

    /** The clauses, each as word and numbers; or the place of the fault in fault[0]. */
    private List<String[]> parse(int[] fault) {
        List<String> tokens = new ArrayList<>();
        List<Integer> places = new ArrayList<>();
        Matcher m = TOKEN.matcher(text);
        while (m.find()) {
            tokens.add(m.group());
            places.add(m.start());
        }
        tokens.add("");
        places.add(text.length());
        List<String[]> clauses = new ArrayList<>();
        int bits = state.bits;
        int t = 0;
        fault[0] = NONE;
        while (true) {
            int[][] bounds;
            int top = (1 << bits) - 1;
            switch (tokens.get(t)) {
                case "plan":
                    bounds = new int[][] {{4, 16}, {2, 5}};
                    break;
                case "add":
                case "del":
                    bounds = new int[][] {{0, top}};
                    break;
                case "fill":
                    bounds = new int[][] {{0, top}, {1, 999}, {1, 96}};
                    break;
                default:
                    fault[0] = places.get(t);
                    return null;
            }
            String[] clause = new String[bounds.length + 1];
            clause[0] = tokens.get(t++);
            for (int j = 0; j < bounds.length; j++, t++) {
                String number = tokens.get(t);
                if (!number.matches("[0-9]{1,5}") || !in(Integer.parseInt(number), bounds[j][0], bounds[j][1])) {
                    fault[0] = places.get(t);
                    return null;
                }
                clause[j + 1] = number;
            }
            clauses.add(clause);
            if (clause[0].equals("plan")) {
                bits = Integer.parseInt(clause[1]);
            }
            if (tokens.get(t).isEmpty()) {
                return clauses;
            }
            if (!tokens.get(t).equals(";") || clauses.size() == 24) {
                fault[0] = places.get(t);
                return null;
            }
            t++;
        }
    }

    int fault() {
        int[] fault = new int[1];
        parse(fault);
        return fault[0];
    }

    int read() {
        List<String[]> clauses = parse(new int[1]);
        if (clauses == null) {
            return NOT;
        }
        for (String[] c : clauses) {
            int[] n = Arrays.stream(c).skip(1).mapToInt(Integer::parseInt).toArray();
            switch (c[0]) {
                case "plan":
                    state = new State();
                    state.bits = n[0];
                    state.size = n[1];
                    state.buckets.get(0).mark = state.top();
                    break;
                case "add":
                    state.put(n[0]);
                    break;
                case "del":
                    state.take(n[0]);
                    break;
                default:
                    state.fill(n[0], n[1], n[2]);
                    break;
            }
        }
        text.setLength(0);
        past.clear();
        kept = new State[2];
        return clauses.size();
    }

    private void remember() {
        past.add(state.copy());
        if (past.size() > 8) {
            past.remove(0);
        }
    }

    int add(int key) {
        if (!in(key, 0, state.top())) {
            return OUTSIDE;
        }
        if (state.keys().contains(key)) {
            return NOT;
        }
        if (state.keys().size() == 96) {
            return FULL;
        }
        remember();
        state.put(key);
        return state.keys().size();
    }

    int remove(int key) {
        if (!in(key, 0, state.top())) {
            return OUTSIDE;
        }
        if (!state.keys().contains(key)) {
            return NOT;
        }
        remember();
        state.take(key);
        return state.keys().size();
    }

    int undo() {
        if (past.isEmpty()) {
            return NOT;
        }
        state = past.remove(past.size() - 1);
        return past.size();
    }

    int keep(int k) {
        if (!in(k, 0, 1)) {
            return UNKNOWN;
        }
        kept[k] = state.copy();
        return state.keys().size();
    }

    int back(int k) {
        if (!in(k, 0, 1)) {
            return UNKNOWN;
        }
        if (kept[k] == null) {
            return NOT;
        }
        state = kept[k].copy();
        past.clear();
        return state.keys().size();
    }

    int has(int key) {
        if (!in(key, 0, state.top())) {
            return OUTSIDE;
        }
        return state.keys().contains(key) ? 1 : 0;
    }

    int near(int x, int way) {
        if (!in(x, 0, state.top()) || !in(way, 0, 1)) {
            return OUTSIDE;
        }
        Integer key = way == 0 ? state.keys().floor(x) : state.keys().ceiling(x);
        return key == null ? NONE : key;
    }

    int rank(int x) {
        if (!in(x, 0, state.top())) {
            return OUTSIDE;
        }
        return state.keys().headSet(x).size();
    }

    int ranked(int k) {
        List<Integer> all = new ArrayList<>(state.keys());
        return in(k, 0, all.size() - 1) ? all.get(k) : UNKNOWN;
    }

    int search(int x, int what) {
        if (!in(x, 0, state.top()) || !in(what, 0, 4)) {
            return OUTSIDE;
        }
        return state.search(x)[what];
    }

    int bucket(int i, int what) {
        if (!in(i, 0, state.buckets.size() - 1)) {
            return UNKNOWN;
        }
        if (!in(what, 0, 3)) {
            return OUTSIDE;
        }
        Bucket b = state.buckets.get(i);
        if (what == 0) {
            return b.keys.size();
        }
        if (what == 1) {
            return b.mark;
        }
        if (b.keys.isEmpty()) {
            return NONE;
        }
        return what == 2 ? b.keys.first() : b.keys.last();
    }

    int level(int l) {
        return in(l, 0, state.bits) ? state.beginnings(l).size() : UNKNOWN;
    }

    private List<Integer> marksUnder(int l, int p) {
        List<Integer> all = new ArrayList<>();
        for (Bucket b : state.buckets) {
            if (state.text(b.mark, state.bits).startsWith(state.text(p, l))) {
                all.add(b.mark);
            }
        }
        return all;
    }

    int marks(int l, int p) {
        if (!in(l, 0, state.bits)) {
            return UNKNOWN;
        }
        if (!in(p, 0, (1 << l) - 1)) {
            return OUTSIDE;
        }
        return marksUnder(l, p).size();
    }

    int under(int l, int p, int end) {
        if (!in(l, 0, state.bits)) {
            return UNKNOWN;
        }
        if (!in(p, 0, (1 << l) - 1) || !in(end, 0, 1)) {
            return OUTSIDE;
        }
        List<Integer> all = marksUnder(l, p);
        if (all.isEmpty()) {
            return NONE;
        }
        return end == 0 ? all.get(0) : all.get(all.size() - 1);
    }

    int sweep(int a, int c, int what) {
        if (!in(a, 0, state.top()) || !in(c, a, state.top()) || !in(what, 0, 2)) {
            return OUTSIDE;
        }
        State then = state.copy();
        for (int key : state.keys().subSet(a, true, c, true)) {
            then.take(key);
        }
        return what == 0 ? then.buckets.size() : what == 1 ? then.splits - state.splits : then.joins - state.joins;
    }

    int flood(int a, int d, int n, int what) {
        if (!in(a, 0, state.top()) || !in(d, 1, 999) || !in(n, 1, 96) || !in(what, 0, 2)) {
            return OUTSIDE;
        }
        State then = state.copy();
        then.fill(a, d, n);
        return what == 0 ? then.buckets.size() : what == 1 ? then.splits - state.splits : then.keys().size();
    }

    int dearest(int what) {
        if (!in(what, 0, 1)) {
            return OUTSIDE;
        }
        int best = NONE, most = NONE;
        for (int key : state.keys().descendingSet()) {
            int cost = state.cost(key);
            if (cost >= most) {
                best = key;
                most = cost;
            }
        }
        return what == 0 ? best : most;
    }

    int mean(int part) {
        if (!in(part, 0, 1)) {
            return OUTSIDE;
        }
        if (state.keys().isEmpty()) {
            return NOT;
        }
        int all = 0;
        for (int key : state.keys()) {
            all += state.cost(key);
        }
        BigInteger above = BigInteger.valueOf(all), below = BigInteger.valueOf(state.keys().size());
        return (part == 0 ? above : below).divide(above.gcd(below)).intValue();
    }

    int spread(int l, int what) {
        if (!in(l, 0, state.bits)) {
            return UNKNOWN;
        }
        if (!in(what, 0, 1)) {
            return OUTSIDE;
        }
        int greatest = NONE, many = 0;
        for (int x = 0; x <= state.top(); x++) {
            int longest = 0;
            for (Bucket b : state.buckets) {
                int unlike = x ^ b.mark;
                int common = unlike == 0 ? state.bits : state.bits - (32 - Integer.numberOfLeadingZeros(unlike));
                longest = Math.max(longest, common);
            }
            if (longest == l) {
                greatest = x;
                many++;
            }
        }
        if (many == 0) {
            return NONE;
        }
        return what == 0 ? greatest : many;
    }

    int row(int row, int n) {
        if (!in(row, 0, 2)) {
            return UNKNOWN;
        }
        if (n > 12) {
            return OUTSIDE;
        }
        if (n < 0) {
            return SIZE;
        }
        rows[row] = new long[n];
        return n;
    }

    private int place(int row, int i) {
        return rows[row] == null ? NULL : in(i, 0, rows[row].length - 1) ? 0 : INDEX;
    }

    int set(int row, int i, int v) {
        if (!in(row, 0, 2)) {
            return UNKNOWN;
        }
        if (place(row, i) != 0) {
            return place(row, i);
        }
        rows[row][i] = v;
        return 1;
    }

    private static boolean fits(BigInteger v) {
        return v.bitLength() <= 63;
    }

    int work(int row, int i, int way, int v) {
        if (!in(row, 0, 2)) {
            return UNKNOWN;
        }
        if (!in(way, 0, 2)) {
            return OUTSIDE;
        }
        if (place(row, i) != 0) {
            return place(row, i);
        }
        BigInteger a = BigInteger.valueOf(rows[row][i]), b = BigInteger.valueOf(v);
        BigInteger c = way == 0 ? a.add(b) : way == 1 ? a.subtract(b) : a.multiply(b);
        if (!fits(c)) {
            return OVER;
        }
        asked = c.longValue();
        rows[row][i] = asked;
        return 1;
    }

    int bits(int row, int i) {
        if (!in(row, 0, 2)) {
            return UNKNOWN;
        }
        if (place(row, i) != 0) {
            return place(row, i);
        }
        asked = Long.toBinaryString(rows[row][i]).chars().filter(c -> c == '1').count();
        return 1;
    }

    int sum(int row) {
        if (!in(row, 0, 2)) {
            return UNKNOWN;
        }
        if (rows[row] == null) {
            return NULL;
        }
        BigInteger all = BigInteger.ZERO;
        for (long v : rows[row]) {
            all = all.add(BigInteger.valueOf(v));
            if (!fits(all)) {
                return OVER;
            }
        }
        asked = all.longValue();
        return rows[row].length;
    }

    int load(int row, int i) {
        if (!in(row, 0, 2)) {
            return UNKNOWN;
        }
        if (i < 0) {
            return OUTSIDE;
        }
        if (rows[row] == null) {
            return NULL;
        }
        int came = 0;
        int rank = 0;
        for (int key : state.keys()) {
            if (rank++ >= i && came < rows[row].length) {
                rows[row][came++] = key;
            }
        }
        return came;
    }

    int drop(int row) {
        if (!in(row, 0, 2)) {
            return UNKNOWN;
        }
        if (rows[row] == null) {
            return NULL;
        }
        int had = rows[row].length;
        rows[row] = null;
        return had;
    }

    long asked() {
        return asked;
    }

    int count(int what) {
        switch (what) {
            case 0: return state.bits;
            case 1: return state.size;
            case 2: return state.keys().size();
            case 3: return state.buckets.size();
            case 4: {
                int all = 0;
                for (int l = 0; l <= state.bits; l++) {
                    all += state.beginnings(l).size();
                }
                return all;
            }
            case 5: return state.splits;
            case 6: return state.joins;
            case 7: {
                int all = 0;
                for (long[] row : rows) {
                    all += row == null ? 0 : row.length;
                }
                return all;
            }
            case 8: return past.size();
            case 9: return text.length();
            default: return OUTSIDE;
        }
    }
}
