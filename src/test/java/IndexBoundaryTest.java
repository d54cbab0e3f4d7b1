/**
 * The boundary sentences of "1 THE INDEX" and of the promises on keys, one part for each;
 * a part's name begins with the promise, and the document's words follow.
 */
public final class IndexBoundaryTest {
    private static final Due due = new Due("IndexBoundaryTest");

    public static void main(String[] args) {
        newObject();
        bits();
        sizes();
        addBounds();
        addNinetySix();
        addOrder();
        lies();
        for (int s = 2; s <= 5; s++) {
            split(s);
            splitFirstAndMiddle(s);
            joinedFirst(s);
            joinedMiddle(s);
            joinedLast(s);
            joinedAndSplit(s);
            onlyOne(s);
        }
        mostBuckets();
        removeBounds();
        lastMarkIsTop();
        undoEight();
        undoNine();
        undoWrapsAround();
        undoBuckets();
        undoRefused();
        keepBounds();
        keepAgain();
        backBounds();
        backTakesUndo();
        backAndText();
        backBuckets();
        countBounds();
        countSplitsAndJoins();
        countPlaces();
        countUndone();
        due.end();
    }

    private static Run run(String part) {
        return new Run(due, part);
    }

    private static void newObject() {
        run("promise 1: eight bits, two a size, no keys")
            .due("COUNTS = 8 2 0 1 9 0 0 0 0 0; MARKS = 255; SIZES = 0")
            .due("has(0) = 0; has(255) = 0; has(256) = OUTSIDE; ranked(0) = UNKNOWN")
            .due("undo() = NOT; back(0) = NOT; back(1) = NOT")
            .due("drop(0) = NULL; drop(1) = NULL; drop(2) = NULL; asked() = 0; fault() = 0");
        run("promise 1: two a size, so the ninth key splits")
            .told("fill 0 1 8").due("SIZES = 8").due("add(8) = 9; SIZES = 4 5");
    }

    private static void bits() {
        for (int b = 4; b <= 16; b++) {
            int top = (1 << b) - 1;
            run("promise 1: BITS 4 .. 16, TOP is 2 to the b, less 1: " + b)
                .told("plan " + b + " 2")
                .due("count(0) = %d; count(4) = %d; MARKS = %d", b, b + 1, top)
                .due("level(%d) = 1; level(%d) = UNKNOWN", b, b + 1)
                .due("add(%d) = OUTSIDE; add(-1) = OUTSIDE; add(%d) = 1; add(0) = 2; KEYS = 0 %d", top + 1, top, top)
                .due("remove(%d) = OUTSIDE; remove(%d) = 1", top + 1, top);
        }
    }

    private static void sizes() {
        for (int s = 2; s <= 5; s++) {
            run("promise 1: SIZE 2 .. 5: " + s).told("plan 8 " + s).due("COUNTS = 8 %d 0 1 9 0 0 0 0 0", s);
        }
    }

    private static void addBounds() {
        run("promise 6: OUTSIDE, a KEY is 0 .. TOP")
            .due("add(-1) = OUTSIDE; add(256) = OUTSIDE; add(MIN) = OUTSIDE; add(MAX) = OUTSIDE; add(65536) = OUTSIDE")
            .due("COUNTS = 8 2 0 1 9 0 0 0 0 0; add(0) = 1; add(255) = 2; KEYS = 0 255");
        run("promise 6: NOT, it is there (KEYS are unlike numbers)")
            .due("add(7) = 1; add(7) = NOT; count(8) = 1; KEYS = 7; remove(7) = 0; add(7) = 1; KEYS = 7");
    }

    private static void addNinetySix() {
        run("promise 6: FULL, 96: the 96th is taken, the 97th is not")
            .told("fill 0 2 95").due("count(2) = 95; add(191) = 96; ranked(95) = 191; add(193) = FULL; add(1) = FULL")
            .due("count(2) = 96; count(8) = 1; has(193) = 0; has(1) = 0; ranked(96) = UNKNOWN")
            .due("remove(0) = 95; add(1) = 96; add(0) = FULL");
        run("promise 6: 96 with the largest size and bits")
            .told("plan 16 5;fill 65000 3 95").due("add(65535) = 96; add(65534) = FULL; remove(65535) = 95; add(65534) = 96");
        run("promise 6: all 16 numbers of 4 bits are keys")
            .told("plan 4 2;fill 0 1 15").due("add(15) = 16; add(15) = NOT; add(16) = OUTSIDE; count(2) = 16");
    }

    private static void addOrder() {
        run("promise 6: OUTSIDE ahead of NOT ahead of FULL")
            .told("fill 0 2 96").due("add(256) = OUTSIDE; add(-1) = OUTSIDE; add(0) = NOT; add(190) = NOT; add(1) = FULL");
    }

    private static void lies() {
        run("promise 6: a KEY lies in the first BUCKET whose MARK is not below it")
            .told("fill 10 10 9").due("MARKS = 40 255; SIZES = 4 5")
            .due("remove(40) = 8; SIZES = 3 5; add(40) = 9; SIZES = 4 5; add(39) = 10; SIZES = 5 5; add(41) = 11; SIZES = 5 6")
            .due("bucket(0, 3) = 40; bucket(1, 2) = 41; search(40, 4) = 0; search(41, 4) = 1; MARKS = 40 255");
        run("promise 6: 0 lies in the first BUCKET, TOP in the last")
            .told("fill 10 10 9").due("add(0) = 10; add(255) = 11; SIZES = 5 6; bucket(0, 2) = 0; bucket(1, 3) = 255");
    }

    private static void split(int s) {
        run("promise 6: more than 4 s KEYS, it is SPLIT; half (cut), the least: s " + s)
            .told("plan 8 " + s + ";fill 0 3 " + 4 * s)
            .due("SIZES = %d; count(5) = 0; MARKS = 255", 4 * s)
            .due("add(254) = %d; SIZES = %d %d; count(5) = 1", 4 * s + 1, 2 * s, 2 * s + 1)
            .due("MARKS = %d 255; bucket(0, 3) = %d; bucket(1, 2) = %d", 3 * (2 * s - 1), 3 * (2 * s - 1), 6 * s)
            .due("count(6) = 0; count(4) = %d", beginnings(3 * (2 * s - 1)));
        run("promise 6: a new least KEY is among the least half: s " + s)
            .told("plan 8 " + s + ";fill 3 3 " + 4 * s)
            .due("add(0) = %d; SIZES = %d %d; MARKS = %d 255", 4 * s + 1, 2 * s, 2 * s + 1, 3 * (2 * s - 1));
    }

    /** Beginnings of all levels of a mark of 8 bits and of 255 together. */
    private static int beginnings(int mark) {
        int alike = Integer.numberOfLeadingZeros((mark ^ 255) << 24);
        return 2 * 9 - (alike + 1);
    }

    private static void splitFirstAndMiddle(int s) {
        int low = 4 * (2 * s - 1);
        String two = "plan 8 " + s + ";fill 0 4 " + (4 * s + 1);
        run("promise 6: the first BUCKET has 4 s, then is SPLIT: s " + s)
            .told(two + ";fill 1 4 " + (2 * s - 1) + ";add 2")
            .due("MARKS = %d 255; SIZES = %d %d; add(3) = %d", low, 4 * s, 2 * s + 1, 6 * s + 2)
            .due("SIZES = %d %d %d; count(5) = 2; bucket(1, 1) = %d; bucket(2, 1) = 255", 2 * s, 2 * s + 1, 2 * s + 1, low);
        // The third bucket comes of keys behind; the middle one then grows alone.
        Run middle = run("promise 6: a BUCKET in the middle has 4 s, then is SPLIT: s " + s)
            .told(two + ";fill " + 4 * (4 * s + 1) + " 1 " + 2 * s)
            .due("count(3) = 3; bucket(0, 1) = %d; bucket(1, 1) = %d; bucket(1, 0) = %d", low, 4 * (4 * s - 1), 2 * s);
        for (int i = 0; i < 2 * s; i++) {
            middle.due("count(3) = 3; add(%d) = %d", 8 * s + 4 * i - 1, 6 * s + 2 + i);
        }
        middle.due("SIZES = %d %d %d; add(%d) = %d", 2 * s, 4 * s, 2 * s + 1, 8 * s + 1, 8 * s + 2)
            .due("SIZES = %d %d %d %d; bucket(0, 1) = %d; bucket(2, 1) = %d", 2 * s, 2 * s, 2 * s + 1, 2 * s + 1, low,
                4 * (4 * s - 1));
    }

    /** Keys 0, 2 .. in three buckets of 2 s, 2 s and 2 s + 1 keys, under 4 s - 2, 8 s - 2 and 255. */
    private static Run three(String part, int s) {
        return run(part).told("plan 8 " + s + ";fill 0 2 " + (6 * s + 1))
            .due("MARKS = %d %d 255; SIZES = %d %d %d; count(5) = 2", 4 * s - 2, 8 * s - 2, 2 * s, 2 * s, 2 * s + 1);
    }

    private static void takeOut(Run run, int from, int many) {
        for (int i = 0; i < many; i++) {
            due.holds("remove(" + (from + 2 * i) + ")", run.answer("remove(" + (from + 2 * i) + ")") >= 0);
        }
    }

    private static void joinedFirst(int s) {
        Run first = three("promise 7: fewer than s KEYS, it is JOINED with the next: the first, s " + s, s);
        takeOut(first, 0, s);
        first.due("SIZES = %d %d %d; count(6) = 0", s, 2 * s, 2 * s + 1);
        takeOut(first, 2 * s, 1);
        first.due("MARKS = %d 255; SIZES = %d %d; COUNTS = 8 %d %d 2 %d 2 1", 8 * s - 2, 3 * s - 1, 2 * s + 1, s, 5 * s,
            beginnings(8 * s - 2));
        first.due("marks(8, %d) = 0; marks(8, %d) = 1", 4 * s - 2, 8 * s - 2);
    }

    private static void joinedMiddle(int s) {
        Run middle = three("promise 7: it and the next one, under the greater MARK: in the middle, s " + s, s);
        takeOut(middle, 4 * s, s);
        middle.due("SIZES = %d %d %d; count(6) = 0", 2 * s, s, 2 * s + 1);
        takeOut(middle, 6 * s, 1);
        middle.due("MARKS = %d 255; SIZES = %d %d; count(5) = 2; count(6) = 1", 4 * s - 2, 2 * s, 3 * s);
    }

    private static void joinedLast(int s) {
        Run last = three("promise 7: the last one, it and the one ahead: s " + s, s);
        takeOut(last, 8 * s, s + 1);
        last.due("SIZES = %d %d %d; count(6) = 0", 2 * s, 2 * s, s);
        takeOut(last, 10 * s + 2, 1);
        last.due("MARKS = %d 255; SIZES = %d %d; count(5) = 2; count(6) = 1", 4 * s - 2, 2 * s, 3 * s - 1);
    }

    private static void joinedAndSplit(int s) {
        String two = "plan 8 " + s + ";fill 0 2 " + (4 * s + 1);
        Run just = run("promise 7: 3 s KEYS JOINED are not SPLIT, the first: s " + s).told(two);
        takeOut(just, 0, s + 1);
        just.due("SIZES = %d; MARKS = 255; count(5) = 1; count(6) = 1", 3 * s);
        int half = (3 * s + 1) / 2;
        Run more = run("promise 7: more than 3 s KEYS JOINED are SPLIT, the first: s " + s).told(two + ";add 255");
        takeOut(more, 0, s + 1);
        more.due("SIZES = %d %d; MARKS = %d 255; count(5) = 2; count(6) = 1", half, 3 * s + 1 - half, 2 * (s + half));
        Run lastJust = run("promise 7: 3 s KEYS JOINED are not SPLIT, the last: s " + s).told(two + ";add 1");
        takeOut(lastJust, 4 * s, s + 2);
        lastJust.due("SIZES = %d; MARKS = 255; count(5) = 1; count(6) = 1", 3 * s);
        Run lastMore = run("promise 7: more than 3 s KEYS JOINED are SPLIT, the last: s " + s).told(two + ";add 1;add 3");
        takeOut(lastMore, 4 * s, s + 2);
        lastMore.due("SIZES = %d %d; count(5) = 2; count(6) = 1; bucket(1, 1) = 255", half, 3 * s + 1 - half)
            .due("bucket(0, 1) = %d; ranked(%d) = %d", half <= 5 ? half - 1 : 2 * (half - 3), half - 1,
                half <= 5 ? half - 1 : 2 * (half - 3));
        // The next one is as full as it can be: s - 1 and 4 s.
        Run most = run("promise 7: JOINED with a full one: s " + s).told(two + ";fill " + (8 * s + 1) + " 1 " + (2 * s - 1));
        most.due("SIZES = %d %d", 2 * s, 4 * s);
        takeOut(most, 0, s + 1);
        half = (5 * s - 1) / 2;
        most.due("SIZES = %d %d; count(5) = 2; count(6) = 1", half, 5 * s - 1 - half);
    }

    private static void onlyOne(int s) {
        Run only = run("promise 7: the only one is not JOINED: s " + s).told("plan 8 " + s + ";fill 0 2 " + 2 * s);
        takeOut(only, 0, 2 * s);
        only.due("COUNTS = 8 %d 0 1 9 0 0; MARKS = 255; SIZES = 0; remove(0) = NOT", s);
        Run joined = run("promise 7: it is the only one behind a join: s " + s).told("plan 8 " + s + ";fill 0 2 " + (4 * s + 1));
        takeOut(joined, 0, 4 * s + 1);
        joined.due("COUNTS = 8 %d 0 1 9 1 1; MARKS = 255; SIZES = 0", s);
    }

    /** A SPLIT needs nine KEYS in one BUCKET and two in each of the others: with 96 KEYS the 44th is the last, 43 times 2 and 9. */
    private static void mostBuckets() {
        Run run = run("promise 6: the most BUCKETS that 96 KEYS can lie in: 45").told("plan 10 2;fill 0 1 5");
        for (int i = 0; i < 44; i++) {
            for (int key = 4 * i + 5; key <= 4 * i + 8; key++) {
                due.holds("add(" + key + ")", run.answer("add(" + key + ")") > 0);
            }
            due.holds("two of the four are taken out", run.answer("remove(" + (4 * i + 2) + ")") > 0 && run.answer("remove(" + (4 * i + 3) + ")") > 0);
        }
        run.due("add(1000) = 94; add(1001) = 95; add(1023) = 96; add(999) = FULL; COUNTS = 10 2 96 45; count(5) = 44; count(6) = 0; level(10) = 45");
        for (int i = 0; i < 44; i++) {
            run.due("bucket(%1$d, 1) = %2$d; bucket(%1$d, 0) = 2", i, 4 * i + 3);
        }
        // Each BUCKET is JOINED as it comes to one KEY; the last one, of eight, is SPLIT then, and JOINED once more.
        run.due("bucket(44, 0) = 8; bucket(44, 1) = 1023; bucket(45, 0) = UNKNOWN; search(172, 4) = 43; search(176, 4) = 44")
            .due("sweep(0, 1023, 0) = 1; sweep(0, 1023, 1) = 1; sweep(0, 1023, 2) = 45; spread(10, 1) = 45; keep(1) = 96")
            .due("remove(0) = 95; count(3) = 44; bucket(43, 1) = 1023; bucket(0, 1) = 7; undo() = 7; count(3) = 45; bucket(0, 1) = 3")
            .due("remove(1023) = 95; back(1) = 96; count(3) = 45; bucket(43, 1) = 175; bucket(44, 1) = 1023; has(1023) = 1");
    }

    private static void removeBounds() {
        run("promise 7: OUTSIDE")
            .due("remove(-1) = OUTSIDE; remove(256) = OUTSIDE; remove(MIN) = OUTSIDE; remove(MAX) = OUTSIDE; count(8) = 0")
            .due("add(0) = 1; add(255) = 2; remove(0) = 1; remove(255) = 0");
        run("promise 7: NOT, it is not there")
            .due("remove(0) = NOT; remove(255) = NOT; add(9) = 1; remove(8) = NOT; remove(10) = NOT; count(8) = 1; KEYS = 9")
            .due("remove(9) = 0; remove(9) = NOT; count(8) = 2");
        run("promise 7: a MARK that is no KEY any more is not there")
            .told("fill 10 10 9").due("MARKS = 40 255; remove(40) = 8; MARKS = 40 255; remove(40) = NOT; remove(255) = NOT");
    }

    private static void lastMarkIsTop() {
        run("promise 6: the last one's MARK is TOP, though TOP is a KEY and it is SPLIT")
            .told("plan 4 2;fill 8 1 8").due("MARKS = 15; add(0) = 9; MARKS = 10 15; bucket(1, 3) = 15");
        run("promise 7: the last one's MARK is TOP behind a JOIN and a SPLIT of it")
            .told("plan 4 2;fill 0 1 9;fill 12 1 4").due("MARKS = 3 7 15; SIZES = 4 4 5; remove(12) = 12; remove(13) = 11")
            .due("remove(14) = 10; SIZES = 4 4 2; remove(15) = 9; MARKS = 3 15; SIZES = 4 5");
    }

    private static void undoEight() {
        Run eight = run("promise 8: the last 8 can be: eight");
        for (int i = 1; i <= 8; i++) {
            eight.due("add(%d) = %d; count(8) = %d", i, i, i);
        }
        for (int left = 7; left >= 1; left--) {
            eight.due("undo() = %d; count(8) = %d; ranked(%d) = %d; ranked(%d) = UNKNOWN", left, left, left - 1, left, left);
        }
        eight.due("undo() = 0; COUNTS = 8 2 0 1 9 0 0 0 0 0; undo() = NOT; count(8) = 0");
        run("promise 8: NOT, none").due("undo() = NOT; add(1) = 1; undo() = 0; undo() = NOT; COUNTS = 8 2 0 1 9 0 0 0 0 0");
    }

    private static void undoNine() {
        Run nine = run("promise 8: the last 8 can be: of nine the first cannot");
        for (int i = 1; i <= 9; i++) {
            nine.due("add(%d) = %d; count(8) = %d", i, i, Math.min(i, 8));
        }
        for (int left = 7; left >= 0; left--) {
            nine.due("undo() = %d", left);
        }
        nine.due("undo() = NOT; KEYS = 1; count(8) = 0");
        Run both = run("promise 8: add() and remove() are undone alike, the latest first");
        both.due("add(1) = 1; remove(1) = 0; add(2) = 1; add(1) = 2; remove(2) = 1; count(8) = 5; undo() = 4; KEYS = 1 2")
            .due("undo() = 3; KEYS = 2; undo() = 2; count(2) = 0; undo() = 1; KEYS = 1; undo() = 0; count(2) = 0; undo() = NOT");
    }

    private static void undoWrapsAround() {
        Run many = run("promise 8: the last 8 of many, and again");
        for (int i = 1; i <= 21; i++) {
            many.due("add(%d) = %d", i, i);
        }
        for (int left = 7; left >= 3; left--) {
            many.due("undo() = %d; count(2) = %d", left, 13 + left);
        }
        many.due("add(100) = 17; count(8) = 4; remove(1) = 16; count(8) = 5; undo() = 4; has(1) = 1; undo() = 3; has(100) = 0")
            .due("undo() = 2; undo() = 1; undo() = 0; undo() = NOT; count(2) = 13; ranked(12) = 13");
        for (int i = 1; i <= 13; i++) {
            many.due("remove(%d) = %d; count(8) = %d", i, 13 - i, Math.min(i, 8));
        }
        for (int left = 7; left >= 0; left--) {
            many.due("undo() = %d; count(2) = %d; ranked(0) = %d", left, 8 - left, 6 + left);
        }
        many.due("undo() = NOT; KEYS = 6 7 8 9 10 11 12 13");
    }

    private static void undoBuckets() {
        run("promise 8: BUCKETS are as ahead of it: a SPLIT")
            .told("fill 0 1 8").due("add(8) = 9; MARKS = 3 255; undo() = 0; MARKS = 255; SIZES = 8; COUNTS = 8 2 8 1 9 0 0");
        run("promise 8: BUCKETS are as ahead of it: a JOIN")
            .told("fill 0 1 9;del 0;del 1").due("remove(3) = 6; MARKS = 255; count(6) = 1; undo() = 0; MARKS = 3 255; SIZES = 2 5")
            .due("COUNTS = 8 2 7 2 17 1 0");
        run("promise 8: BUCKETS are as ahead of it: a JOIN and a SPLIT")
            .told("fill 0 1 10;del 0;del 1").due("MARKS = 3 255; remove(2) = 7; MARKS = 5 255; SIZES = 3 4; count(5) = 2; count(6) = 1")
            .due("undo() = 0; MARKS = 3 255; SIZES = 2 6; count(5) = 1; count(6) = 0; KEYS = 2 3 4 5 6 7 8 9");
        run("promise 8: a removed KEY of 96 comes back")
            .told("fill 0 2 96").due("remove(0) = 95; undo() = 0; count(2) = 96; has(0) = 1; add(1) = FULL");
    }

    private static void undoRefused() {
        run("promise 8: what was refused is not undone")
            .due("add(5) = 1; add(5) = NOT; add(256) = OUTSIDE; remove(6) = NOT; remove(-1) = OUTSIDE; count(8) = 1; undo() = 0")
            .due("count(2) = 0; undo() = NOT");
        Run eight = run("promise 8: a refused call does not push the eighth out");
        for (int i = 1; i <= 8; i++) {
            eight.due("add(%d) = %d", i, i);
        }
        eight.due("add(8) = NOT; remove(9) = NOT; add(-1) = OUTSIDE; keep(0) = 8; keep(2) = UNKNOWN; back(1) = NOT; count(8) = 8");
        for (int left = 7; left >= 0; left--) {
            eight.due("undo() = %d", left);
        }
        eight.due("count(2) = 0");
        run("promise 8: ROWS, asked() and THE TEXT are not undone")
            .due("add(5) = 1; row(0, 3) = 3; work(0, 1, 0, 9) = 1").type("add").due("undo() = 0; count(7) = 3; asked() = 9; count(9) = 3")
            .due("sum(0) = 3; asked() = 9");
    }

    private static void keepBounds() {
        run("promise 9: k 0, 1; UNKNOWN, no such k")
            .due("keep(-1) = UNKNOWN; keep(2) = UNKNOWN; keep(MIN) = UNKNOWN; keep(MAX) = UNKNOWN; back(0) = NOT; back(1) = NOT")
            .due("keep(0) = 0; back(1) = NOT; keep(1) = 0; back(0) = 0; back(1) = 0");
        run("promise 9: how many KEYS: none, 96")
            .due("keep(0) = 0").told("fill 0 1 96").due("keep(0) = 96; keep(1) = 96");
        run("promise 9: keeping changes nothing else")
            .due("add(1) = 1; add(2) = 2; keep(0) = 2; keep(1) = 2; count(8) = 2; KEYS = 1 2; undo() = 1; undo() = 0; undo() = NOT")
            .due("count(2) = 0; back(0) = 2; KEYS = 1 2");
    }

    private static void keepAgain() {
        run("promise 9: as it is now: the latest of the same k counts")
            .due("add(1) = 1; keep(0) = 1; add(2) = 2; keep(0) = 2; add(3) = 3; back(0) = 2; KEYS = 1 2");
        run("promise 9: each k has its own")
            .due("add(1) = 1; keep(0) = 1; add(2) = 2; keep(1) = 2; remove(1) = 1; back(0) = 1; KEYS = 1; back(1) = 2; KEYS = 1 2")
            .due("back(0) = 1; KEYS = 1");
        run("promise 9: what is kept stays when the index changes")
            .due("keep(0) = 0; add(1) = 1; undo() = 0; add(2) = 1; remove(2) = 0; add(3) = 1; back(0) = 0; count(2) = 0")
            .due("add(4) = 1; back(0) = 0; count(2) = 0; has(4) = 0");
    }

    private static void backBounds() {
        run("promise 10: UNKNOWN")
            .due("back(-1) = UNKNOWN; back(2) = UNKNOWN; back(MIN) = UNKNOWN; back(MAX) = UNKNOWN; add(3) = 1; keep(0) = 1; keep(1) = 1")
            .due("back(-1) = UNKNOWN; back(2) = UNKNOWN; count(8) = 1; KEYS = 3");
        run("promise 10: NOT, nothing was kept")
            .due("add(3) = 1; back(0) = NOT; back(1) = NOT; KEYS = 3; count(8) = 1; keep(1) = 1; back(0) = NOT; count(8) = 1")
            .due("undo() = 0; back(1) = 1; KEYS = 3");
    }

    private static void backTakesUndo() {
        run("promise 10: nothing can be undone")
            .due("add(1) = 1; add(2) = 2; keep(0) = 2; add(3) = 3; count(8) = 3; back(0) = 2; count(8) = 0; undo() = NOT; KEYS = 1 2")
            .due("add(9) = 3; count(8) = 1; undo() = 0; KEYS = 1 2; undo() = NOT");
        run("promise 10: nothing can be undone, even if nothing changed since")
            .due("add(1) = 1; keep(1) = 1; back(1) = 1; count(8) = 0; undo() = NOT; KEYS = 1");
        run("promise 10: gone back to again and again")
            .due("add(1) = 1; keep(1) = 1; add(2) = 2; back(1) = 1; add(3) = 2; back(1) = 1; KEYS = 1; back(1) = 1; back(0) = NOT");
    }

    private static void backAndText() {
        run("promise 10: NOT, nothing was kept since the last text")
            .due("add(1) = 1; keep(0) = 1; keep(1) = 1").told("add 2").due("back(0) = NOT; back(1) = NOT; KEYS = 1 2; keep(1) = 2")
            .due("back(0) = NOT; add(3) = 3; back(1) = 2; KEYS = 1 2");
        run("promise 10: a text that changes no key is a text too")
            .due("add(1) = 1; keep(0) = 1").told("del 9").due("back(0) = NOT; undo() = NOT; KEYS = 1");
        run("promise 10: a text with a FAULT is none: what was kept stays")
            .due("add(1) = 1; keep(0) = 1; add(2) = 2").type("add 3;ad").due("read() = NOT; count(8) = 2; back(0) = 1; KEYS = 1");
        run("promise 10: a text that is only written, erased or empty is none")
            .due("add(1) = 1; keep(0) = 1; add(2) = 2").type("add 3").due("fault() = NONE; erase() = 5; read() = NOT; count(8) = 2")
            .due("back(0) = 1; KEYS = 1");
        run("promise 10: kept again behind a text, in other bits and size")
            .due("keep(0) = 0").told("plan 10 3;fill 0 50 14").due("back(0) = NOT; keep(0) = 14; add(1023) = 15; back(0) = 14")
            .due("COUNTS = 10 3 14 2 21 1 0 0 0 0; has(1023) = 0");
    }

    private static void backBuckets() {
        run("promise 10: it is as it was kept: BUCKETS, SPLITS, JOINS")
            .told("fill 0 1 9;del 0;del 1").due("keep(0) = 7; remove(3) = 6; MARKS = 255; count(6) = 1; keep(1) = 6; back(0) = 7")
            .due("MARKS = 3 255; SIZES = 2 5; COUNTS = 8 2 7 2 17 1 0; back(1) = 6; MARKS = 255; COUNTS = 8 2 6 1 9 1 1");
        run("promise 10: ROWS, asked() and THE TEXT stay")
            .due("keep(0) = 0; row(2, 4) = 4; work(2, 3, 1, 5) = 1; add(1) = 1").type("del 1")
            .due("back(0) = 0; count(7) = 4; asked() = -5; sum(2) = 4; asked() = -5; count(9) = 5; add(1) = 1; read() = 1; count(2) = 0");
    }

    private static void countBounds() {
        run("promise 33: OUTSIDE")
            .due("count(-1) = OUTSIDE; count(10) = OUTSIDE; count(MIN) = OUTSIDE; count(MAX) = OUTSIDE; count(0) = 8; count(9) = 0");
        run("promise 33: beginnings of all LEVELS together, 0 and b too")
            .told("plan 4 2;fill 0 1 16").due("MARKS = 3 7 15; level(0) = 1; level(1) = 2; level(2) = 3; level(3) = 3; level(4) = 3")
            .due("count(4) = 12");
        run("promise 33: 96 KEYS").told("plan 16 2;fill 0 9 96").due("count(2) = 96; count(3) = 23; count(5) = 22");
    }

    private static void countSplitsAndJoins() {
        run("promise 33: SPLITS, JOINS since the beginning")
            .due("count(5) = 0; count(6) = 0").told("fill 0 1 9").told("del 0;del 1;del 2").due("COUNTS = 8 2 6 1 9 1 1");
        run("promise 33: since the last plan: the same plan again")
            .told("fill 0 1 9;del 0;del 1;del 2").told("plan 8 2").due("COUNTS = 8 2 0 1 9 0 0");
        run("promise 33: since the last plan: in the middle of a text")
            .told("fill 0 1 9;plan 8 2;fill 0 1 13;plan 8 2;fill 0 1 9").due("COUNTS = 8 2 9 2 17 1 0; count(5) = 1");
        run("promise 33: a text without a plan begins nothing anew")
            .told("fill 0 1 9").told("del 8").due("count(5) = 1; count(6) = 0");
        run("promise 33: what is undone, gone back from takes SPLITS, JOINS with it")
            .told("fill 0 1 8").due("keep(0) = 8; add(8) = 9; count(5) = 1; undo() = 0; count(5) = 0; add(9) = 9; count(5) = 1")
            .due("remove(0) = 8; remove(1) = 7; remove(2) = 6; count(6) = 1; undo() = 3; count(6) = 0; count(5) = 1; remove(3) = 6")
            .due("count(6) = 1; back(0) = 8; count(5) = 0; count(6) = 0");
    }

    private static void countPlaces() {
        run("promise 33: places of all ROWS: 0 to 36, missing ones have none")
            .due("count(7) = 0; row(0, 0) = 0; count(7) = 0; row(1, 12) = 12; count(7) = 12; row(0, 12) = 12; row(2, 12) = 12")
            .due("count(7) = 36; row(1, 1) = 1; count(7) = 25; drop(0) = 12; count(7) = 13; drop(1) = 1; drop(2) = 12; count(7) = 0");
    }

    private static void countUndone() {
        Run run = run("promise 33: how many can be undone: 0 to 8");
        for (int i = 0; i < 12; i++) {
            run.due("count(8) = %d; add(%d) = %d", Math.min(8, i), i, i + 1);
        }
        run.due("count(8) = 8; undo() = 7; count(8) = 7").told("del 50").due("count(8) = 0");
        Run letters = run("promise 33: letters of THE TEXT: 0 to 200");
        for (int i = 0; i < 200; i++) {
            letters.due("count(9) = %d; write(32) = %d", i, i + 1);
        }
        letters.due("count(9) = 200; write(32) = FULL; count(9) = 200; erase() = 200; count(9) = 0");
    }
}
