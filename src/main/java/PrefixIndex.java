/**
 * An index of whole numbers in marked buckets, searched by the beginnings of
 * the marks' bits. What each call answers is told in the document DOC.md.
 */
public final class PrefixIndex {
    public static final int NONE = -1, UNKNOWN = -2, OUTSIDE = -3, NOT = -4, FULL = -5, NULL = -11, INDEX = -12, SIZE = -13, OVER = -14;

    private static final int FIRST_BITS = 8;
    private static final int LEAST_BITS = 4;
    private static final int MOST_BITS = 16;
    private static final int FIRST_SIZE = 2;
    private static final int LEAST_SIZE = 2;
    private static final int MOST_SIZE = 5;
    private static final int MOST_KEYS = 96;
    // A bucket that is not the only one has as many keys as the size at least.
    private static final int MOST_MARKS = MOST_KEYS / LEAST_SIZE;
    private static final int MOST_STEP = 999;
    private static final int MOST_UNDONE = 8;
    private static final int MOST_KEPT = 2;
    private static final int MOST_LETTERS = 200;
    private static final int MOST_LETTER = 255;
    private static final int MOST_CLAUSES = 24;
    private static final int MOST_DIGITS = 5;
    private static final int CLAUSE_NUMBERS = 3;
    private static final int MOST_ROWS = 3;
    private static final int MOST_PLACES = 12;
    // Halving a number of 32 bits ends within so many steps.
    private static final int MOST_HALVINGS = 32;
    // Euclid's steps on ints stay below 48.
    private static final int MOST_DIVISIONS = 64;

    private final Buckets now = new Buckets();
    private final Buckets trial = new Buckets();
    private final Past past = new Past();
    private final Kept kept = new Kept();
    private final Finding finding = new Finding();
    private final Script script = new Script();
    private final Rows rows = new Rows();
    private long told;

    public PrefixIndex() {
        told = 0;
    }

    // ---- what is told

    public int write(int letter) {
        if (letter < 0 || letter > MOST_LETTER) {
            return OUTSIDE;
        }
        return script.append(letter) ? script.length : FULL;
    }

    public int erase() {
        return script.clear();
    }

    public int fault() {
        return script.faultPlace(now.bits);
    }

    public int read() {
        if (script.faultPlace(now.bits) != NONE) {
            return NOT;
        }
        script.perform(now);
        script.clear();
        past.forget();
        kept.forget();
        return script.clauses;
    }

    // ---- keys

    public int add(int key) {
        if (!now.inBounds(key)) {
            return OUTSIDE;
        }
        if (now.holds(key)) {
            return NOT;
        }
        if (now.keyCount >= MOST_KEYS) {
            return FULL;
        }
        past.remember(now);
        now.putIn(key);
        return now.keyCount;
    }

    public int remove(int key) {
        if (!now.inBounds(key)) {
            return OUTSIDE;
        }
        if (!now.holds(key)) {
            return NOT;
        }
        past.remember(now);
        now.takeOut(key);
        return now.keyCount;
    }

    public int undo() {
        if (past.held <= 0) {
            return NOT;
        }
        past.restore(now);
        return past.held;
    }

    public int keep(int k) {
        if (!kept.known(k)) {
            return UNKNOWN;
        }
        kept.remember(k, now);
        return now.keyCount;
    }

    public int back(int k) {
        if (!kept.known(k)) {
            return UNKNOWN;
        }
        if (!kept.holds(k)) {
            return NOT;
        }
        kept.restore(k, now);
        past.forget();
        return now.keyCount;
    }

    // ---- what is found

    public int has(int key) {
        if (!now.inBounds(key)) {
            return OUTSIDE;
        }
        return now.holds(key) ? 1 : 0;
    }

    public int near(int x, int way) {
        if (!now.inBounds(x) || way < 0 || way > 1) {
            return OUTSIDE;
        }
        return way == 0 ? now.keyAt(now.rankOf(x + 1) - 1) : now.keyAt(now.rankOf(x));
    }

    public int rank(int x) {
        if (!now.inBounds(x)) {
            return OUTSIDE;
        }
        return now.rankOf(x);
    }

    public int ranked(int k) {
        if (k < 0 || k >= now.keyCount) {
            return UNKNOWN;
        }
        return now.keyAt(k);
    }

    public int search(int x, int what) {
        if (!now.inBounds(x) || what < 0 || what > 4) {
            return OUTSIDE;
        }
        finding.seek(now, x);
        switch (what) {
            case 0:
                return finding.probes;
            case 1:
                return finding.links;
            case 2:
                return finding.looks;
            case 3:
                return finding.length;
            default:
                return finding.bucket;
        }
    }

    // ---- how it stands

    public int bucket(int i, int what) {
        if (i < 0 || i >= now.markCount) {
            return UNKNOWN;
        }
        if (what < 0 || what > 3) {
            return OUTSIDE;
        }
        int many = now.keysIn(i);
        if (what == 0) {
            return many;
        }
        if (what == 1) {
            return now.markAt(i);
        }
        if (many == 0) {
            return NONE;
        }
        return what == 2 ? now.keyAt(now.startOf(i)) : now.keyAt(now.endOf(i) - 1);
    }

    public int level(int l) {
        return now.hasLevel(l) ? now.beginnings(l) : UNKNOWN;
    }

    public int marks(int l, int p) {
        if (!now.hasLevel(l)) {
            return UNKNOWN;
        }
        if (p < 0 || p >= 1 << l) {
            return OUTSIDE;
        }
        return now.marksBehind(l, p) - now.marksAhead(l, p);
    }

    public int under(int l, int p, int end) {
        if (!now.hasLevel(l)) {
            return UNKNOWN;
        }
        if (p < 0 || p >= 1 << l || end < 0 || end > 1) {
            return OUTSIDE;
        }
        if (!now.isBeginning(l, p)) {
            return NONE;
        }
        return end == 0 ? now.markAt(now.marksAhead(l, p)) : now.markAt(now.marksBehind(l, p) - 1);
    }

    // ---- foretold

    public int sweep(int a, int c, int what) {
        if (!now.inBounds(a) || !now.inBounds(c) || a > c || what < 0 || what > 2) {
            return OUTSIDE;
        }
        trial.become(now);
        trial.takeOutAll(a, c);
        if (what == 0) {
            return trial.markCount;
        }
        return what == 1 ? trial.splits - now.splits : trial.joins - now.joins;
    }

    public int flood(int a, int d, int n, int what) {
        if (!now.inBounds(a) || d < 1 || d > MOST_STEP || n < 1 || n > MOST_KEYS || what < 0 || what > 2) {
            return OUTSIDE;
        }
        trial.become(now);
        trial.putInAll(a, d, n);
        if (what == 0) {
            return trial.markCount;
        }
        return what == 1 ? trial.splits - now.splits : trial.keyCount;
    }

    public int dearest(int what) {
        if (what < 0 || what > 1) {
            return OUTSIDE;
        }
        int dearestKey = NONE;
        int mostCost = NONE;
        for (int i = 0; i < now.keyCount; i++) {
            int cost = costOf(now.keyAt(i));
            if (cost > mostCost) {
                mostCost = cost;
                dearestKey = now.keyAt(i);
            }
        }
        return what == 0 ? dearestKey : mostCost;
    }

    public int mean(int part) {
        if (part < 0 || part > 1) {
            return OUTSIDE;
        }
        if (now.keyCount <= 0) {
            return NOT;
        }
        int costs = 0;
        for (int i = 0; i < now.keyCount; i++) {
            costs += costOf(now.keyAt(i));
        }
        int shared = commonDivisor(costs, now.keyCount);
        if (shared <= 0) {
            return NOT;
        }
        return (part == 0 ? costs : now.keyCount) / shared;
    }

    public int spread(int l, int what) {
        if (!now.hasLevel(l)) {
            return UNKNOWN;
        }
        if (what < 0 || what > 1) {
            return OUTSIDE;
        }
        int many = now.numbersOfLength(l);
        if (many == 0) {
            return NONE;
        }
        return what == 0 ? now.greatestOfLength(l) : many;
    }

    // ---- rows

    public int row(int row, int n) {
        if (!rows.known(row)) {
            return UNKNOWN;
        }
        if (n > MOST_PLACES) {
            return OUTSIDE;
        }
        if (n < 0) {
            return SIZE;
        }
        rows.renew(row, n);
        return n;
    }

    public int set(int row, int i, int v) {
        int refusal = rows.refusalAt(row, i);
        if (refusal != 0) {
            return refusal;
        }
        rows.put(row, i, v);
        return 1;
    }

    public int work(int row, int i, int way, int v) {
        if (!rows.known(row)) {
            return UNKNOWN;
        }
        if (way < 0 || way > 2) {
            return OUTSIDE;
        }
        int refusal = rows.refusalAt(row, i);
        if (refusal != 0) {
            return refusal;
        }
        long held = rows.at(row, i);
        if (isOver(held, way, v)) {
            return OVER;
        }
        told = worked(held, way, v);
        rows.put(row, i, told);
        return 1;
    }

    public int bits(int row, int i) {
        int refusal = rows.refusalAt(row, i);
        if (refusal != 0) {
            return refusal;
        }
        told = Long.bitCount(rows.at(row, i));
        return 1;
    }

    public int sum(int row) {
        int refusal = rows.refusalOf(row);
        if (refusal != 0) {
            return refusal;
        }
        long together = 0;
        for (int i = 0; i < rows.lengthOf(row); i++) {
            long held = rows.at(row, i);
            if (isOver(together, 0, held)) {
                return OVER;
            }
            together += held;
        }
        told = together;
        return rows.lengthOf(row);
    }

    public int load(int row, int i) {
        if (!rows.known(row)) {
            return UNKNOWN;
        }
        if (i < 0) {
            return OUTSIDE;
        }
        int refusal = rows.refusalOf(row);
        if (refusal != 0) {
            return refusal;
        }
        int came = Math.max(0, Math.min(rows.lengthOf(row), now.keyCount - i));
        for (int place = 0; place < came; place++) {
            rows.put(row, place, now.keyAt(i + place));
        }
        return came;
    }

    public int drop(int row) {
        int refusal = rows.refusalOf(row);
        if (refusal != 0) {
            return refusal;
        }
        int had = rows.lengthOf(row);
        rows.lose(row);
        return had;
    }

    public long asked() {
        return told;
    }

    public int count(int what) {
        switch (what) {
            case 0:
                return now.bits;
            case 1:
                return now.size;
            case 2:
                return now.keyCount;
            case 3:
                return now.markCount;
            case 4:
                return now.allBeginnings();
            case 5:
                return now.splits;
            case 6:
                return now.joins;
            case 7:
                return rows.allPlaces();
            case 8:
                return past.held;
            case 9:
                return script.length;
            default:
                return OUTSIDE;
        }
    }

    private int costOf(int x) {
        finding.seek(now, x);
        return finding.probes + finding.links + finding.looks;
    }

    private static int commonDivisor(int a, int b) {
        int greater = a;
        int lesser = b;
        for (int step = 0; lesser != 0 && step < MOST_DIVISIONS; step++) {
            int rest = greater % lesser;
            greater = lesser;
            lesser = rest;
        }
        return greater;
    }

    private static long worked(long held, int way, long v) {
        if (way == 0) {
            return held + v;
        }
        return way == 1 ? held - v : held * v;
    }

    private static boolean isOver(long held, int way, long v) {
        long answer = worked(held, way, v);
        if (way == 0) {
            return ((held ^ answer) & (v ^ answer)) < 0;
        }
        if (way == 1) {
            return ((held ^ v) & (held ^ answer)) < 0;
        }
        // Dividing back cannot show the one overflow by -1: that quotient wraps too.
        if (v == -1) {
            return held == Long.MIN_VALUE;
        }
        return v != 0 && answer / v != held;
    }

    private static int firstNotBelow(int[] row, int used, int x) {
        int low = 0;
        int high = used < row.length ? used : row.length;
        for (int step = 0; low < high && step < MOST_HALVINGS; step++) {
            int middle = (low + high) / 2;
            if (row[middle] < x) {
                low = middle + 1;
            } else {
                high = middle;
            }
        }
        return low;
    }

    private static boolean insertAt(int[] row, int used, int place, int value) {
        if (used < 0 || used >= row.length || place < 0 || place > used) {
            return false;
        }
        for (int i = used; i > place; i--) {
            row[i] = row[i - 1];
        }
        row[place] = value;
        return true;
    }

    private static boolean deleteAt(int[] row, int used, int place) {
        if (used < 0 || used > row.length || place < 0 || place >= used) {
            return false;
        }
        for (int i = place; i < used - 1; i++) {
            row[i] = row[i + 1];
        }
        return true;
    }

    private static void copyOver(int[] from, int[] to) {
        System.arraycopy(from, 0, to, 0, Math.min(from.length, to.length));
    }

    /**
     * Keys and marks, both rising. Which bucket a key lies in follows from the
     * marks alone, so a bucket needs no list of its own.
     */
    private static final class Buckets {
        private final int[] keys = new int[MOST_KEYS];
        private final int[] marks = new int[MOST_MARKS];
        private int bits;
        private int size;
        private int keyCount;
        private int markCount;
        private int splits;
        private int joins;

        Buckets() {
            begin(FIRST_BITS, FIRST_SIZE);
        }

        void begin(int newBits, int newSize) {
            bits = newBits;
            size = newSize;
            keyCount = 0;
            markCount = 1;
            marks[0] = top();
            splits = 0;
            joins = 0;
        }

        void become(Buckets other) {
            copyOver(other.keys, keys);
            copyOver(other.marks, marks);
            bits = other.bits;
            size = other.size;
            keyCount = other.keyCount;
            markCount = other.markCount;
            splits = other.splits;
            joins = other.joins;
        }

        int top() {
            return (1 << bits) - 1;
        }

        boolean inBounds(int x) {
            return x >= 0 && x <= top();
        }

        boolean hasLevel(int l) {
            return l >= 0 && l <= bits;
        }

        int rankOf(int x) {
            return firstNotBelow(keys, keyCount, x);
        }

        int keyAt(int i) {
            return i >= 0 && i < keyCount && i < keys.length ? keys[i] : NONE;
        }

        boolean holds(int key) {
            return key >= 0 && keyAt(rankOf(key)) == key;
        }

        int markAt(int i) {
            return i >= 0 && i < markCount && i < marks.length ? marks[i] : NONE;
        }

        int bucketOf(int x) {
            return firstNotBelow(marks, markCount, x);
        }

        // Ahead of the first bucket markAt answers NONE, which is 1 below the least key.
        int startOf(int i) {
            return endOf(i - 1);
        }

        int endOf(int i) {
            return firstNotBelow(keys, keyCount, markAt(i) + 1);
        }

        int keysIn(int i) {
            return endOf(i) - endOf(i - 1);
        }

        void putIn(int key) {
            if (holds(key) || !insertAt(keys, keyCount, rankOf(key), key)) {
                return;
            }
            keyCount++;
            int home = bucketOf(key);
            if (keysIn(home) > 4 * size) {
                halve(home);
            }
        }

        void putInAll(int a, int d, int n) {
            for (int i = 0; i < n; i++) {
                int key = a + i * d;
                if (inBounds(key)) {
                    putIn(key);
                }
            }
        }

        void takeOut(int key) {
            if (!holds(key) || !deleteAt(keys, keyCount, rankOf(key))) {
                return;
            }
            keyCount--;
            int home = bucketOf(key);
            if (markCount > 1 && keysIn(home) < size) {
                unite(home);
            }
        }

        void takeOutAll(int a, int c) {
            int many = rankOf(c + 1) - rankOf(a);
            for (int i = 0; i < many; i++) {
                takeOut(keyAt(rankOf(a)));
            }
        }

        private void halve(int i) {
            int start = endOf(i - 1);
            int lesserHalf = (endOf(i) - start) / 2;
            int mark = keyAt(start + lesserHalf - 1);
            if (insertAt(marks, markCount, i, mark)) {
                markCount++;
                splits++;
            }
        }

        private void unite(int i) {
            // Two buckets are one as soon as the lesser of their marks is gone.
            int lesser = i == markCount - 1 ? i - 1 : i;
            if (!deleteAt(marks, markCount, lesser)) {
                return;
            }
            markCount--;
            joins++;
            if (keysIn(lesser) > 3 * size) {
                halve(lesser);
            }
        }

        int beginningOf(int x, int l) {
            return x >> (bits - l);
        }

        int marksAhead(int l, int p) {
            return firstNotBelow(marks, markCount, p << (bits - l));
        }

        int marksBehind(int l, int p) {
            return firstNotBelow(marks, markCount, (p + 1) << (bits - l));
        }

        boolean isBeginning(int l, int p) {
            return beginningOf(markAt(marksAhead(l, p)), l) == p;
        }

        int beginnings(int l) {
            int many = 0;
            int latest = NONE;
            for (int i = 0; i < markCount; i++) {
                int p = beginningOf(markAt(i), l);
                if (p != latest) {
                    many++;
                    latest = p;
                }
            }
            return many;
        }

        int allBeginnings() {
            int many = 0;
            for (int l = 0; l <= bits; l++) {
                many += beginnings(l);
            }
            return many;
        }

        int numbersOfLength(int l) {
            int atLeast = beginnings(l) << (bits - l);
            if (l >= bits) {
                return atLeast;
            }
            return atLeast - (beginnings(l + 1) << (bits - l - 1));
        }

        /** NONE, if no number has that length. */
        int greatestOfLength(int l) {
            if (l >= bits) {
                return markAt(markCount - 1);
            }
            // A number has just this length if its beginning goes on with a bit
            // with which no mark goes on; behind that bit it is free.
            for (int i = markCount - 1; i >= 0; i--) {
                int longer = 2 * beginningOf(markAt(i), l);
                int free = bits - l - 1;
                if (!isBeginning(l + 1, longer + 1)) {
                    return ((longer + 2) << free) - 1;
                }
                if (!isBeginning(l + 1, longer)) {
                    return ((longer + 1) << free) - 1;
                }
            }
            return NONE;
        }
    }

    /** What one search found and cost. */
    private static final class Finding {
        private int probes;
        private int links;
        private int looks;
        private int length;
        private int bucket;

        void seek(Buckets buckets, int x) {
            probe(buckets, x);
            boolean goesOnWithOne = length < buckets.bits && (buckets.beginningOf(x, length + 1) & 1) == 1;
            links = goesOnWithOne ? 1 : 0;
            bucket = buckets.bucketOf(x);
            look(buckets, x);
        }

        private void probe(Buckets buckets, int x) {
            int low = 0;
            int high = buckets.bits;
            int steps = 0;
            for (; low < high && steps < MOST_HALVINGS; steps++) {
                int middle = (low + high + 1) / 2;
                if (buckets.isBeginning(middle, buckets.beginningOf(x, middle))) {
                    low = middle;
                } else {
                    high = middle - 1;
                }
            }
            probes = steps;
            length = low;
        }

        private void look(Buckets buckets, int x) {
            int start = buckets.startOf(bucket);
            int low = 0;
            int high = buckets.keysIn(bucket);
            int steps = 0;
            for (; low < high && steps < MOST_HALVINGS; steps++) {
                int middle = (low + high) / 2;
                if (buckets.keyAt(start + middle) < x) {
                    low = middle + 1;
                } else {
                    high = middle;
                }
            }
            looks = steps;
        }
    }

    /** The index as it was ahead of each of the latest changes. */
    private static final class Past {
        private final Buckets[] ring = new Buckets[MOST_UNDONE];
        private int next;
        private int held;

        Past() {
            for (int i = 0; i < ring.length; i++) {
                ring[i] = new Buckets();
            }
        }

        void remember(Buckets now) {
            Buckets oldest = copyAt(next);
            if (oldest == null) {
                return;
            }
            oldest.become(now);
            next = (next + 1) % MOST_UNDONE;
            held = Math.min(held + 1, MOST_UNDONE);
        }

        void restore(Buckets now) {
            int latest = (next + MOST_UNDONE - 1) % MOST_UNDONE;
            Buckets copy = copyAt(latest);
            if (held <= 0 || copy == null) {
                return;
            }
            now.become(copy);
            next = latest;
            held--;
        }

        void forget() {
            held = 0;
        }

        private Buckets copyAt(int i) {
            return i >= 0 && i < ring.length ? ring[i] : null;
        }
    }

    /** The index as it was kept, in each of its places. */
    private static final class Kept {
        private final Buckets[] copies = new Buckets[MOST_KEPT];
        private final boolean[] full = new boolean[MOST_KEPT];

        Kept() {
            for (int i = 0; i < copies.length; i++) {
                copies[i] = new Buckets();
            }
        }

        boolean known(int k) {
            return k >= 0 && k < copies.length && k < full.length;
        }

        boolean holds(int k) {
            return known(k) && full[k];
        }

        void remember(int k, Buckets now) {
            if (!known(k) || copies[k] == null) {
                return;
            }
            copies[k].become(now);
            full[k] = true;
        }

        void restore(int k, Buckets now) {
            if (!holds(k) || copies[k] == null) {
                return;
            }
            now.become(copies[k]);
        }

        void forget() {
            for (int k = 0; k < full.length; k++) {
                full[k] = false;
            }
        }
    }

    /** The text, and its clauses as far as they have been parsed. */
    private static final class Script {
        private static final int END = 0, BLANK = 1, WORD = 2, NUMBER = 3, SIGN = 4;
        private static final int PLAN = 0, ADD = 1, DEL = 2, FILL = 3;

        private final int[] letters = new int[MOST_LETTERS];
        private final int[] kinds = new int[MOST_CLAUSES];
        private final int[] numbers = new int[MOST_CLAUSES * CLAUSE_NUMBERS];
        private int length;
        private int clauses;
        private int bits;
        private int place;
        private int tokenStart;
        private int token;

        boolean append(int letter) {
            if (length < 0 || length >= letters.length) {
                return false;
            }
            letters[length] = letter;
            length++;
            return true;
        }

        int clear() {
            int had = length;
            length = 0;
            return had;
        }

        /** The clauses ahead of the fault, or all of them, stand parsed afterwards. */
        int faultPlace(int bitsNow) {
            bits = bitsNow;
            place = 0;
            clauses = 0;
            for (int i = 0; i < MOST_CLAUSES; i++) {
                if (!parseClause(i)) {
                    return tokenStart;
                }
                clauses++;
                nextToken();
                if (token == END) {
                    return NONE;
                }
                if (token != SIGN || letterAt(tokenStart) != ';') {
                    return tokenStart;
                }
            }
            // Behind the last clause that there may be no ; can stand.
            return tokenStart;
        }

        void perform(Buckets buckets) {
            for (int i = 0; i < clauses && i < kinds.length; i++) {
                int first = numberOf(i, 0);
                switch (kinds[i]) {
                    case PLAN:
                        buckets.begin(first, numberOf(i, 1));
                        break;
                    case ADD:
                        buckets.putIn(first);
                        break;
                    case DEL:
                        buckets.takeOut(first);
                        break;
                    default:
                        buckets.putInAll(first, numberOf(i, 1), numberOf(i, 2));
                        break;
                }
            }
        }

        private boolean parseClause(int i) {
            nextToken();
            int kind = clauseKind();
            if (kind == NONE || i < 0 || i >= kinds.length) {
                return false;
            }
            kinds[i] = kind;
            if (kind == PLAN) {
                boolean stands = parseNumber(i, 0, LEAST_BITS, MOST_BITS) && parseNumber(i, 1, LEAST_SIZE, MOST_SIZE);
                // The clauses behind a plan have their bounds from it.
                bits = stands ? numberOf(i, 0) : bits;
                return stands;
            }
            int top = (1 << bits) - 1;
            if (kind == FILL) {
                return parseNumber(i, 0, 0, top) && parseNumber(i, 1, 1, MOST_STEP) && parseNumber(i, 2, 1, MOST_KEYS);
            }
            return parseNumber(i, 0, 0, top);
        }

        private int clauseKind() {
            if (tokenIs("plan")) {
                return PLAN;
            }
            if (tokenIs("add")) {
                return ADD;
            }
            if (tokenIs("del")) {
                return DEL;
            }
            return tokenIs("fill") ? FILL : NONE;
        }

        private boolean parseNumber(int i, int which, int least, int most) {
            nextToken();
            if (token != NUMBER || place - tokenStart > MOST_DIGITS) {
                return false;
            }
            int value = 0;
            for (int at = tokenStart; at < place; at++) {
                value = 10 * value + (letterAt(at) - '0');
            }
            int slot = i * CLAUSE_NUMBERS + which;
            if (value < least || value > most || slot < 0 || slot >= numbers.length) {
                return false;
            }
            numbers[slot] = value;
            return true;
        }

        private int numberOf(int i, int which) {
            int slot = i * CLAUSE_NUMBERS + which;
            return slot >= 0 && slot < numbers.length ? numbers[slot] : 0;
        }

        private void nextToken() {
            tokenStart = endOfRun(place, BLANK);
            token = kindOf(letterAt(tokenStart));
            if (token == WORD || token == NUMBER) {
                place = endOfRun(tokenStart, token);
            } else {
                place = token == END ? tokenStart : tokenStart + 1;
            }
        }

        private int endOfRun(int start, int kind) {
            int at = start;
            while (at < length && kindOf(letterAt(at)) == kind) {
                at++;
            }
            return at;
        }

        private boolean tokenIs(String word) {
            if (token != WORD || place - tokenStart != word.length()) {
                return false;
            }
            for (int i = 0; i < word.length(); i++) {
                if (letterAt(tokenStart + i) != word.charAt(i)) {
                    return false;
                }
            }
            return true;
        }

        private int letterAt(int i) {
            return i >= 0 && i < length && i < letters.length ? letters[i] : NONE;
        }

        private static int kindOf(int letter) {
            if (letter == NONE) {
                return END;
            }
            if (letter == ' ') {
                return BLANK;
            }
            if (letter >= 'a' && letter <= 'z') {
                return WORD;
            }
            return letter >= '0' && letter <= '9' ? NUMBER : SIGN;
        }
    }

    /** The rows of longs; a missing one has the length NONE. */
    private static final class Rows {
        private final long[] places = new long[MOST_ROWS * MOST_PLACES];
        private final int[] lengths = new int[MOST_ROWS];

        Rows() {
            for (int row = 0; row < lengths.length; row++) {
                lengths[row] = NONE;
            }
        }

        boolean known(int row) {
            return row >= 0 && row < lengths.length;
        }

        int lengthOf(int row) {
            return known(row) ? lengths[row] : NONE;
        }

        /** 0, if nothing speaks against the row. */
        int refusalOf(int row) {
            if (!known(row)) {
                return UNKNOWN;
            }
            return lengthOf(row) == NONE ? NULL : 0;
        }

        /** 0, if nothing speaks against the place. */
        int refusalAt(int row, int i) {
            int refusal = refusalOf(row);
            if (refusal != 0) {
                return refusal;
            }
            return i < 0 || i >= lengthOf(row) ? INDEX : 0;
        }

        void renew(int row, int n) {
            if (!known(row)) {
                return;
            }
            lengths[row] = n;
            for (int i = 0; i < n; i++) {
                put(row, i, 0);
            }
        }

        void lose(int row) {
            if (known(row)) {
                lengths[row] = NONE;
            }
        }

        long at(int row, int i) {
            int slot = slotOf(row, i);
            return slot >= 0 && slot < places.length ? places[slot] : 0;
        }

        void put(int row, int i, long value) {
            int slot = slotOf(row, i);
            if (slot >= 0 && slot < places.length) {
                places[slot] = value;
            }
        }

        int allPlaces() {
            int many = 0;
            for (int row = 0; row < lengths.length; row++) {
                many += Math.max(0, lengths[row]);
            }
            return many;
        }

        private int slotOf(int row, int i) {
            return refusalAt(row, i) == 0 ? row * MOST_PLACES + i : NONE;
        }
    }
}
