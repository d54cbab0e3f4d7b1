import java.util.ArrayList;
import java.util.List;

/**
 * What the document's sentences say of one another, in states that texts lead to: what is foretold
 * comes, levels and marks add up, a search ends where its length and its link say. No answer is
 * worked out ahead here; each is held against what other calls answer.
 */
public final class AgreementTest {
    private static final int NONE = -1;
    private static final String[] STATES = {
        "del 0", "add 0", "add 255", "fill 10 10 9", "fill 0 2 96", "fill 1 1 13;del 4;del 8", "fill 160 1 96;del 170;del 171;del 172",
        "fill 0 9 29;fill 4 9 28;del 9;del 18;del 27;del 4;del 13;del 22;del 31;del 40;del 45;fill 100 1 9",
        "plan 4 2;fill 0 1 16", "plan 4 5;fill 0 1 16", "plan 4 2;fill 8 1 8;fill 0 2 4;del 8;del 9", "plan 5 2;fill 0 1 32;del 3;del 4;del 5;del 31",
        "plan 5 3;fill 0 1 30;del 0;del 1;del 2;del 3;del 4", "plan 6 4;fill 0 1 64;del 20;del 21;del 22;del 23;del 24;del 25", "plan 7 5;fill 3 1 96;fill 0 1 9",
        "plan 7 2;fill 127 1 1;fill 0 4 32;fill 1 8 16;del 64;del 68;del 72;del 65"};
    private static final Due due = new Due("AgreementTest");

    public static void main(String[] args) {
        for (String state : STATES) {
            buckets(state);
            levels(state);
            lengths(state);
            links(state);
            spreads(state);
            costs(state);
            nearest(state);
            loads(state);
            sweeps(state);
            floods(state);
            byTextAndByCall(state);
        }
        farSearches("plan 16 2;fill 1000 700 40;add 65535;del 1700;fill 5 1 30");
        farSearches("plan 13 3;fill 0 85 96;del 85;del 170;del 255;del 340");
        lastCalls();
        sideBySide();
        due.end();
    }

    private static Run state(String part, String text) {
        return new Run(due, part + " (" + text + ")").told(text);
    }

    private static int ask(Run run, String call, Object... numbers) {
        return (int) run.answer(call.formatted(numbers));
    }

    private static int[] all(Run run, String call, int many) {
        int[] answers = new int[many];
        for (int i = 0; i < many; i++) {
            answers[i] = ask(run, call, i);
        }
        return answers;
    }

    private static int[] marksOf(String text) {
        Run run = state("marks", text);
        return all(run, "bucket(%d, 1)", ask(run, "count(3)"));
    }

    private static int[] keysOf(String text) {
        Run run = state("keys", text);
        return all(run, "ranked(%d)", ask(run, "count(2)"));
    }

    private static int bitsOf(String text) {
        return ask(state("bits", text), "count(0)");
    }

    private static int topOf(String text) {
        return (1 << bitsOf(text)) - 1;
    }

    private static int inCommon(int x, int mark, int bits) {
        int length = 0;
        while (length < bits && (x >> (bits - length - 1)) == (mark >> (bits - length - 1))) {
            length++;
        }
        return length;
    }

    private static int longest(int x, int[] marks, int bits) {
        int longest = 0;
        for (int mark : marks) {
            longest = Math.max(longest, inCommon(x, mark, bits));
        }
        return longest;
    }

    private static void buckets(String text) {
        Run run = state("promise 16: keys in their order, no key above its bucket's mark", text);
        int size = ask(run, "count(1)");
        int many = ask(run, "count(3)");
        int before = -1;
        int keys = 0;
        for (int i = 0; i < many; i++) {
            int mark = ask(run, "bucket(%d, 1)", i);
            int held = ask(run, "bucket(%d, 0)", i);
            due.holds("marks rise", mark > before);
            due.holds("bucket " + i + " has " + held + " keys", held <= 4 * size && (many == 1 || held >= size));
            if (held > 0) {
                due.is("the least key's rank", ask(run, "rank(%d)", ask(run, "bucket(%d, 2)", i)), keys);
                due.is("the greatest key's rank", ask(run, "rank(%d)", ask(run, "bucket(%d, 3)", i)), keys + held - 1);
                due.holds("they are above the mark ahead, not above their own", ask(run, "bucket(%d, 2)", i) > before && ask(run, "bucket(%d, 3)", i) <= mark);
            }
            before = mark;
            keys += held;
        }
        due.is("the last mark is TOP", before, (1 << ask(run, "count(0)")) - 1);
        due.is("keys of all buckets", keys, ask(run, "count(2)"));
    }

    private static void levels(String text) {
        int bits = bitsOf(text);
        int[] marks = marksOf(text);
        int together = 0;
        for (int l = 0; l <= bits; l++) {
            Run run = state("promise 18: marks of level " + l, text);
            int beginnings = 0;
            int begun = 0;
            for (int p = 0; p < 1 << l; p++) {
                int many = ask(run, "marks(%d, %d)", l, p);
                beginnings += many > 0 ? 1 : 0;
                begun += many;
            }
            due.is("beginnings", ask(run, "level(%d)", l), beginnings);
            due.is("marks", begun, marks.length);
            together += beginnings;
            Run ends = state("promise 19: the ends of level " + l, text);
            for (int mark : marks) {
                int p = mark >> (bits - l);
                int many = ask(ends, "marks(%d, %d)", l, p);
                int least = ask(ends, "search(%d, 4)", ask(ends, "under(%d, %d, 0)", l, p));
                due.is("from the least to the greatest", ask(ends, "search(%d, 4)", ask(ends, "under(%d, %d, 1)", l, p)), least + many - 1);
            }
        }
        due.is("beginnings of all levels together", ask(state("promise 33: beginnings", text), "count(4)"), together);
    }

    private static void lengths(String text) {
        int[] marks = marksOf(text);
        int bits = bitsOf(text);
        Run run = state("promise 15: the longest beginning in common with any mark", text);
        for (int x = 0; x < 1 << bits; x++) {
            due.is("search(" + x + ", 3)", ask(run, "search(%d, 3)", x), longest(x, marks, bits));
        }
    }

    private static void links(String text) {
        int bits = bitsOf(text);
        for (int x = 0; x < 1 << bits; x += 64) {
            Run run = state("promise 15: then the mark is at hand, or the next one is", text);
            for (int y = x; y < Math.min(x + 64, 1 << bits); y++) {
                link(run, y, bits);
            }
        }
    }

    /** At the length's end the marks that begin like x are all behind it, so the least is x's own, or all ahead of it, so x's is the next. */
    private static void link(Run run, int x, int bits) {
        int length = ask(run, "search(%d, 3)", x);
        int link = ask(run, "search(%d, 1)", x);
        int atHand = ask(run, "under(%d, %d, %d)", length, x >> (bits - length), link);
        int bucket = ask(run, "search(%d, 4)", x);
        due.is("the mark at hand of " + x, ask(run, "bucket(%d, 1)", bucket - link), atHand);
        due.holds("it lies there", atHand < x == (link == 1) && ask(run, "bucket(%d, 1)", bucket) >= x);
    }

    private static void spreads(String text) {
        int[] marks = marksOf(text);
        int bits = bitsOf(text);
        int[] many = new int[bits + 1];
        int[] greatest = new int[bits + 1];
        for (int x = 0; x < 1 << bits; x++) {
            many[longest(x, marks, bits)]++;
            greatest[longest(x, marks, bits)] = x;
        }
        Run run = state("promise 24: the greatest number of a length, how many", text);
        for (int l = 0; l <= bits; l++) {
            due.is("spread(" + l + ", 0)", ask(run, "spread(%d, 0)", l), many[l] == 0 ? NONE : greatest[l]);
            due.is("spread(" + l + ", 1)", ask(run, "spread(%d, 1)", l), many[l] == 0 ? NONE : many[l]);
        }
    }

    private static void costs(String text) {
        int[] keys = keysOf(text);
        if (keys.length == 0) {
            return;
        }
        int together = 0;
        int most = NONE;
        int dearest = NONE;
        Run run = state("promise 22: the dearest, promise 23: the mean of probes, links and looks", text);
        for (int key : keys) {
            int cost = ask(run, "search(%d, 0)", key) + ask(run, "search(%d, 1)", key) + ask(run, "search(%d, 2)", key);
            together += cost;
            dearest = cost > most ? key : dearest;
            most = Math.max(most, cost);
        }
        due.is("dearest(0)", ask(run, "dearest(0)"), dearest);
        due.is("dearest(1)", ask(run, "dearest(1)"), most);
        int above = ask(run, "mean(0)");
        int below = ask(run, "mean(1)");
        due.is("above to below", (long) above * keys.length, (long) below * together);
        for (int divisor = 2; divisor <= below; divisor++) {
            due.holds("lowest terms: " + divisor, above % divisor != 0 || below % divisor != 0);
        }
    }

    private static void nearest(String text) {
        int top = topOf(text);
        int[] keys = keysOf(text);
        for (int from = 0; from <= top; from += 64) {
            Run run = state("promise 12: nearest, 13: ranks, 11: there or not", text);
            for (int x = from; x <= Math.min(top, from + 63); x++) {
                int rank = ask(run, "rank(%d)", x);
                boolean there = rank < keys.length && keys[rank] == x;
                due.is("has(" + x + ")", ask(run, "has(%d)", x), there ? 1 : 0);
                due.is("near(" + x + ", 1)", ask(run, "near(%d, 1)", x), rank < keys.length ? keys[rank] : NONE);
                due.is("near(" + x + ", 0)", ask(run, "near(%d, 0)", x), there ? x : rank > 0 ? keys[rank - 1] : NONE);
            }
        }
        for (int i = 0; i < keys.length; i++) {
            due.is("rank of " + keys[i], ask(state("promise 14: the key of a rank", text), "rank(%d)", keys[i]), i);
        }
    }

    private static void loads(String text) {
        int[] keys = keysOf(text);
        for (int from = 0; from <= keys.length; from += 5) {
            Run run = state("promise 30: keys of ranks come to a row", text);
            int come = Math.min(12, keys.length - from);
            run.due("row(1, 12) = 12; load(1, %d) = %d", from, come);
            for (int i = 0; i < 12; i++) {
                run.due("work(1, %d, 0, 0) = 1; asked() = %d", i, i < come ? keys[from + i] : 0);
            }
        }
    }

    /** Buckets, splits, joins. */
    private static int[] changes(Run run) {
        return new int[] {ask(run, "count(3)"), ask(run, "count(5)"), ask(run, "count(6)")};
    }

    private static void sweeps(String text) {
        int top = topOf(text);
        int[][] spans = {{0, top}, {0, top / 2}, {top / 2, top}, {top / 3, top / 2}, {0, 0}, {top, top}, {top / 4, 3 * top / 4}, {1, top / 5 + 1}};
        for (int[] span : spans) {
            Run run = state("promise 20: what a sweep tells comes", text);
            int[] told = new int[3];
            for (int what = 0; what < 3; what++) {
                told[what] = ask(run, "sweep(%d, %d, %d)", span[0], span[1], what);
            }
            int[] before = changes(run);
            for (int key : keysOf(text)) {
                if (key >= span[0] && key <= span[1]) {
                    due.holds("remove(" + key + ")", ask(run, "remove(%d)", key) >= 0);
                }
            }
            int[] then = changes(run);
            due.is("buckets", told[0], then[0]);
            due.is("splits", told[1], then[1] - before[1]);
            due.is("joins", told[2], then[2] - before[2]);
        }
    }

    private static void floods(String text) {
        int top = topOf(text);
        int[][] floods = {{0, 1, 96}, {0, 7, 96}, {top, 1, 96}, {top / 2, 2, 30}, {top / 3, 1, 9}, {3, 999, 2}, {1, 1, 1}};
        for (int[] f : floods) {
            Run run = state("promise 21: what a flood tells comes", text);
            int[] told = new int[3];
            for (int what = 0; what < 3; what++) {
                told[what] = ask(run, "flood(%d, %d, %d, %d)", f[0], f[1], f[2], what);
            }
            int[] before = changes(run);
            run.told("fill " + f[0] + " " + f[1] + " " + f[2]);
            int[] then = changes(run);
            due.is("buckets", told[0], then[0]);
            due.is("splits", told[1], then[1] - before[1]);
            due.is("keys", told[2], ask(run, "count(2)"));
            due.is("joins", then[2], before[2]);
        }
    }

    /** The keys once more, put in one by one behind the same plan, in the order of their ranks; then all by one text's clauses. */
    private static void byTextAndByCall(String text) {
        Run first = state("promise 6: a key is put in by add() as by a text", text);
        String plan = "plan " + ask(first, "count(0)") + " " + ask(first, "count(1)");
        int[] keys = keysOf(text);
        Run called = state("promise 6: by add()", plan);
        Run written = state("promise 5: by add, ten at a time", plan);
        StringBuilder clauses = new StringBuilder();
        for (int i = 0; i < keys.length && i < 40; i++) {
            due.is("add(" + keys[i] + ")", ask(called, "add(%d)", keys[i]), i + 1);
            clauses.append(clauses.length() == 0 ? "" : ";").append("add ").append(keys[i]);
            if (i % 10 == 9 || i == keys.length - 1 || i == 39) {
                written.told(clauses.toString());
                clauses.setLength(0);
            }
        }
        int many = ask(called, "count(3)");
        due.is("buckets", ask(written, "count(3)"), many);
        for (int i = 0; i < many; i++) {
            due.is("mark of bucket " + i, ask(written, "bucket(%d, 1)", i), ask(called, "bucket(%d, 1)", i));
            due.is("keys of bucket " + i, ask(written, "bucket(%d, 0)", i), ask(called, "bucket(%d, 0)", i));
        }
    }

    /** With many bits not all numbers are searched, but those about keys, marks and powers of 2. */
    private static void farSearches(String text) {
        int bits = bitsOf(text);
        int[] marks = marksOf(text);
        List<Integer> numbers = new ArrayList<>();
        for (int mark : marks) {
            numbers.addAll(List.of(mark - 1, mark, mark + 1));
        }
        for (int key : keysOf(text)) {
            numbers.add(key);
        }
        for (int b = 0; b <= bits; b++) {
            numbers.addAll(List.of((1 << b) - 1, 1 << b, (1 << bits) - (1 << b)));
        }
        buckets(text);
        costs(text);
        for (int x : numbers) {
            if (x >= 0 && x < 1 << bits) {
                Run run = state("promise 15: many bits", text);
                due.is("search(" + x + ", 3)", ask(run, "search(%d, 3)", x), longest(x, marks, bits));
                link(run, x, bits);
            }
        }
        spreads(text);
    }

    /** "An object is used for at most 512 calls": whatever was called before, the last ones answer as they should. */
    private static void lastCalls() {
        Run busy = new Run(due, "What it is: 512 calls");
        int calls = 0;
        for (; calls < 480; calls += 8) {
            busy.due("add(9) = 1; near(9, 0) = 9; undo() = 0; write(97) = 1; erase() = 1; row(0, 12) = 12; drop(0) = 12; keep(0) = 0");
        }
        // 32 calls are left.
        busy.due("add(1) = 1; add(2) = 2; row(2, 2) = 2; load(2, 0) = 2; sum(2) = 2; asked() = 3; back(0) = 0; back(1) = NOT; undo() = NOT")
            .type("fill 0 1 9").due("fault() = NONE; read() = 1; count(3) = 2; count(5) = 1; sweep(0, 2, 2) = 1; search(8, 2) = 3; dearest(1) = 7")
            .due("mean(1) = 9; add(9) = 10; remove(9) = 9; count(8) = 2; undo() = 1");
        Run full = new Run(due, "What it is: the 512th call");
        for (int i = 0; i < 511; i++) {
            full.answer(i % 2 == 0 ? "add(77)" : "remove(77)");
        }
        full.due("near(255, 0) = 77");
        Run letters = new Run(due, "What it is: 512 letters");
        for (int i = 0; i < 511; i++) {
            letters.answer("write(32)");
        }
        letters.due("erase() = 200");
    }

    private static void sideBySide() {
        Run one = new Run(due, "promise 1: a new object, beside others");
        Run two = state("promise 1: another", "plan 5 3;fill 0 1 30");
        two.due("keep(0) = 30; add(31) = 31; row(0, 4) = 4; work(0, 3, 0, 5) = 1").type("del 7");
        one.due("COUNTS = 8 2 0 1 9 0 0 0 0 0; MARKS = 255; undo() = NOT; back(0) = NOT; asked() = 0; drop(0) = NULL; fault() = 0; add(200) = 1");
        Run three = new Run(due, "promise 1: a third");
        three.due("COUNTS = 8 2 0 1 9 0 0 0 0 0; has(200) = 0; asked() = 0; back(0) = NOT");
        two.due("COUNTS = 5 3 31 5; count(8) = 1; count(9) = 5; asked() = 5; undo() = 0; back(0) = 30; sum(0) = 4; asked() = 5; read() = 1; count(2) = 29");
        one.due("KEYS = 200; undo() = 0");
    }
}
