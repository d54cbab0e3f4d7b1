/**
 * The boundary sentences of "2 A SEARCH" and of promises 11 to 19, one part for each;
 * a part's name begins with the promise, and the document's words follow.
 */
public final class FoundBoundaryTest {
    private static final Due due = new Due("FoundBoundaryTest");

    public static void main(String[] args) {
        has();
        near();
        nearWays();
        rank();
        ranked();
        searchBounds();
        for (int b = 4; b <= 16; b++) {
            searchProbes(b);
        }
        searchLength();
        searchLinks();
        searchLooks();
        searchBucket();
        bucket();
        level();
        levelsTakenOut();
        marks();
        under();
        due.end();
    }

    private static Run run(String part) {
        return new Run(due, part);
    }

    private static void has() {
        run("promise 11: 1 a KEY is there, 0").due("has(7) = 0; add(7) = 1; has(7) = 1; has(6) = 0; has(8) = 0; remove(7) = 0; has(7) = 0");
        run("promise 11: 0 and TOP")
            .due("has(0) = 0; has(255) = 0; add(0) = 1; add(255) = 2; has(0) = 1; has(255) = 1; has(1) = 0; has(254) = 0");
        run("promise 11: OUTSIDE")
            .due("has(-1) = OUTSIDE; has(256) = OUTSIDE; has(MIN) = OUTSIDE; has(MAX) = OUTSIDE; has(65536) = OUTSIDE")
            .told("plan 4 2").due("has(15) = 0; has(16) = OUTSIDE").told("plan 16 2").due("has(65535) = 0; has(65536) = OUTSIDE");
        run("promise 11: a MARK is no KEY").told("fill 10 10 9").due("remove(40) = 8; MARKS = 40 255; has(40) = 0; has(255) = 0");
    }

    private static void near() {
        run("promise 12: NONE, there are no KEYS").due("near(0, 0) = NONE; near(0, 1) = NONE; near(255, 0) = NONE; near(255, 1) = NONE");
        run("promise 12: one KEY")
            .due("add(7) = 1; near(6, 0) = NONE; near(7, 0) = 7; near(8, 0) = 7; near(6, 1) = 7; near(7, 1) = 7; near(8, 1) = NONE");
        run("promise 12: 0 and TOP are KEYS")
            .due("add(0) = 1; add(255) = 2; near(0, 0) = 0; near(0, 1) = 0; near(255, 0) = 255; near(255, 1) = 255")
            .due("near(1, 0) = 0; near(1, 1) = 255; near(254, 0) = 0; near(254, 1) = 255");
        run("promise 12: the one ahead, the one behind lie in another BUCKET").told("fill 10 10 9").due("MARKS = 40 255")
            .due("near(49, 0) = 40; near(41, 1) = 50; near(40, 1) = 40; near(40, 0) = 40; near(50, 0) = 50; remove(40) = 8")
            .due("near(45, 0) = 30")
            .due("near(40, 0) = 30; near(31, 1) = 50; near(9, 0) = NONE; near(91, 1) = NONE; near(255, 0) = 90; near(0, 1) = 10");
        run("promise 12: of 96 KEYS").told("plan 16 2;fill 100 9 96")
            .due("near(99, 0) = NONE; near(100, 0) = 100; near(955, 1) = 955; near(956, 1) = NONE")
            .due("near(65535, 0) = 955; near(0, 1) = 100");
    }

    private static void nearWays() {
        run("promise 12: OUTSIDE, way")
            .due("add(7) = 1; near(7, -1) = OUTSIDE; near(7, 2) = OUTSIDE; near(7, MIN) = OUTSIDE; near(7, MAX) = OUTSIDE");
        run("promise 12: OUTSIDE, x")
            .due("add(7) = 1; near(-1, 1) = OUTSIDE; near(256, 0) = OUTSIDE; near(MIN, 1) = OUTSIDE; near(MAX, 0) = OUTSIDE")
            .due("near(-1, 0) = OUTSIDE; near(256, 1) = OUTSIDE; near(-1, 2) = OUTSIDE");
        run("promise 12: OUTSIDE ahead of NONE").due("near(0, 2) = OUTSIDE; near(256, 1) = OUTSIDE");
    }

    private static void rank() {
        run("promise 13: how many KEYS are below x: none")
            .due("rank(0) = 0; rank(255) = 0; add(0) = 1; rank(0) = 0; rank(1) = 1; rank(255) = 1");
        run("promise 13: x itself is not below it")
            .due("add(255) = 1; rank(255) = 0; add(254) = 2; rank(255) = 1; rank(254) = 0; rank(253) = 0");
        run("promise 13: 96, 95").told("fill 0 1 96").due("rank(255) = 96; rank(96) = 96; rank(95) = 95; rank(1) = 1; rank(0) = 0");
        run("promise 13: OUTSIDE").due("rank(-1) = OUTSIDE; rank(256) = OUTSIDE; rank(MIN) = OUTSIDE; rank(MAX) = OUTSIDE")
            .told("plan 4 2;fill 0 1 16").due("rank(15) = 15; rank(16) = OUTSIDE");
    }

    private static void ranked() {
        run("promise 14: UNKNOWN, there is none")
            .due("ranked(0) = UNKNOWN; ranked(-1) = UNKNOWN; ranked(MIN) = UNKNOWN; ranked(MAX) = UNKNOWN");
        run("promise 14: one KEY")
            .due("add(9) = 1; ranked(0) = 9; ranked(1) = UNKNOWN; ranked(-1) = UNKNOWN; remove(9) = 0; ranked(0) = UNKNOWN");
        run("promise 14: of 96 KEYS").told("fill 10 2 96")
            .due("ranked(0) = 10; ranked(95) = 200; ranked(96) = UNKNOWN; ranked(-1) = UNKNOWN")
            .due("remove(200) = 95; ranked(95) = UNKNOWN; ranked(94) = 198; remove(10) = 94; ranked(0) = 12; ranked(94) = UNKNOWN");
    }

    private static void searchBounds() {
        run("promise 15: OUTSIDE, x")
            .due("search(-1, 0) = OUTSIDE; search(256, 4) = OUTSIDE; search(MIN, 3) = OUTSIDE; search(MAX, 2) = OUTSIDE")
            .due("search(0, 0) = 3; search(255, 0) = 4").told("plan 4 2").due("search(15, 0) = 3; search(16, 0) = OUTSIDE");
        run("promise 15: OUTSIDE, what")
            .due("search(0, -1) = OUTSIDE; search(0, 5) = OUTSIDE; search(0, MIN) = OUTSIDE; search(0, MAX) = OUTSIDE")
            .due("search(0, 4) = 0; search(256, 5) = OUTSIDE");
    }

    private static void searchIs(Run run, int x, int probes, int links, int looks, int length, int bucket) {
        run.due("search(%1$d, 0) = %2$d; search(%1$d, 1) = %3$d; search(%1$d, 2) = %4$d; search(%1$d, 3) = %5$d; search(%1$d, 4) = %6$d",
            x, probes, links, looks, length, bucket);
    }

    /** How many probes a length needs, if all that is no longer than it is found. */
    private static int probes(int b, int length) {
        int low = 0;
        int high = b;
        int probes = 0;
        while (low < high) {
            int middle = low + (high - low + 1) / 2;
            low = middle <= length ? middle : low;
            high = middle <= length ? high : middle - 1;
            probes++;
        }
        return probes;
    }

    private static void searchProbes(int b) {
        int top = (1 << b) - 1;
        Run run = run("promise 15: PROBES, MIDDLE of both (cut up), no KEY, LENGTH 0 to b: " + b).told("plan " + b + " 2");
        for (int length = 0; length <= b; length++) {
            // So many ones, then a nought and noughts, or ones.
            int least = top & ~(top >> length);
            int greatest = length == b ? top : least | (top >> (length + 1));
            searchIs(run, least, probes(b, length), 0, 0, length, 0);
            searchIs(run, greatest, probes(b, length), 0, 0, length, 0);
        }
    }

    private static void searchLength() {
        Run four = run("promise 15: LENGTH 0 and LENGTH b, 4 BITS").told("plan 4 2");
        searchIs(four, 0, 2, 0, 0, 0, 0);
        searchIs(four, 7, 2, 0, 0, 0, 0);
        searchIs(four, 8, 2, 0, 0, 1, 0);
        searchIs(four, 13, 2, 0, 0, 2, 0);
        searchIs(four, 14, 3, 0, 0, 3, 0);
        searchIs(four, 15, 3, 0, 0, 4, 0);
        Run sixteen = run("promise 15: LENGTH 0 and LENGTH b, 16 BITS").told("plan 16 2;add 3");
        searchIs(sixteen, 0, 4, 0, 1, 0, 0);
        searchIs(sixteen, 32767, 4, 0, 1, 0, 0);
        searchIs(sixteen, 32768, 4, 0, 1, 1, 0);
        searchIs(sixteen, 65534, 5, 0, 1, 15, 0);
        searchIs(sixteen, 65535, 5, 0, 1, 16, 0);
        // Every mark is found whole, LENGTH b; a LENGTH of 0 is gone as soon as a mark begins with 0.
        Run marks = run("promise 15: LENGTH b for every MARK").told("plan 4 2;fill 0 1 16").due("MARKS = 3 7 15");
        searchIs(marks, 3, 3, 0, 2, 4, 0);
        searchIs(marks, 7, 3, 0, 2, 4, 1);
        searchIs(marks, 15, 3, 0, 3, 4, 2);
        marks.due("search(0, 3) = 2; search(4, 3) = 2; search(8, 3) = 1; search(12, 3) = 2; search(14, 3) = 3");
    }

    private static void searchLinks() {
        Run run = run("promise 15: LINKS 1, if LENGTH is below b and the bit of x behind so many is 1; else 0");
        // Marks 00101000 and 11111111.
        run.told("fill 10 10 9").due("MARKS = 40 255");
        run.due("search(40, 3) = 8; search(40, 1) = 0; search(41, 3) = 7; search(41, 1) = 1");
        run.due("search(42, 3) = 6; search(42, 1) = 1; search(39, 3) = 4; search(39, 1) = 0; search(48, 3) = 3; search(48, 1) = 1");
        run.due("search(64, 3) = 1; search(64, 1) = 1; search(127, 3) = 1; search(127, 1) = 1; search(128, 3) = 1; search(128, 1) = 0");
        run.due("search(255, 3) = 8; search(255, 1) = 0; search(254, 3) = 7; search(254, 1) = 0; search(0, 3) = 2; search(0, 1) = 0");
        run("promise 15: LINKS 0 at LENGTH b, though the last bit is 1").told("plan 4 2;fill 0 1 16").due("MARKS = 3 7 15")
            .due("search(3, 1) = 0; search(7, 1) = 0; search(15, 1) = 0; search(5, 1) = 0; search(11, 1) = 0; search(13, 1) = 0");
    }

    private static void searchLooks() {
        run("promise 15: LOOKS, no KEY")
            .due("search(0, 2) = 0; search(128, 2) = 0; search(255, 2) = 0; add(7) = 1; remove(7) = 0; search(7, 2) = 0");
        run("promise 15: LOOKS, one KEY")
            .due("add(7) = 1; search(0, 2) = 1; search(6, 2) = 1; search(7, 2) = 1; search(8, 2) = 1; search(255, 2) = 1");
        run("promise 15: LOOKS, MIDDLE of both (cut): two KEYS").due("add(10) = 1; add(20) = 2")
            .due("search(9, 2) = 2; search(10, 2) = 2; search(11, 2) = 2; search(20, 2) = 2; search(21, 2) = 1; search(255, 2) = 1");
        run("promise 15: LOOKS, three KEYS").told("fill 10 10 3")
            .due("search(0, 2) = 2; search(10, 2) = 2; search(20, 2) = 2; search(21, 2) = 2; search(30, 2) = 2; search(31, 2) = 2");
        run("promise 15: LOOKS, four KEYS").told("fill 10 10 4")
            .due("search(10, 2) = 3; search(20, 2) = 3; search(30, 2) = 2; search(40, 2) = 2; search(41, 2) = 2; search(31, 2) = 2");
        // From 0 and 20: 10, 5, 2, 1, 0 for the least; 10, 15, 18, 19 for the greatest.
        run("promise 15: LOOKS, as many KEYS as a BUCKET has").told("plan 8 5;fill 10 10 20")
            .due("SIZES = 20; search(0, 2) = 5; search(10, 2) = 5; search(200, 2) = 4; search(255, 2) = 4; search(110, 2) = 4");
        run("promise 15: LOOKS, in the BUCKET in which x would lie alone").told("fill 10 10 9")
            .due("SIZES = 4 5; remove(20) = 8; remove(30) = 7")
            .due("SIZES = 2 5; search(41, 2) = 3; search(40, 2) = 2; search(0, 2) = 2; search(255, 2) = 2");
    }

    private static void searchBucket() {
        run("promise 15: the number of the BUCKET: the first whose MARK is not below x").told("fill 1 1 13").due("MARKS = 4 8 255")
            .due("search(0, 4) = 0; search(4, 4) = 0; search(5, 4) = 1; search(8, 4) = 1; search(9, 4) = 2; search(255, 4) = 2");
        run("promise 15: the only BUCKET").due("search(0, 4) = 0; search(255, 4) = 0; add(9) = 1; search(200, 4) = 0");
        run("promise 15: a MARK that is no KEY").told("fill 1 1 13;del 4;del 8")
            .due("MARKS = 4 8 255; search(4, 4) = 0; search(5, 4) = 1; search(8, 4) = 1");
    }

    private static void bucket() {
        run("promise 16: UNKNOWN")
            .due("bucket(-1, 0) = UNKNOWN; bucket(1, 0) = UNKNOWN; bucket(MIN, 1) = UNKNOWN; bucket(MAX, 1) = UNKNOWN; bucket(0, 0) = 0")
            .told("fill 10 10 9").due("bucket(1, 0) = 5; bucket(2, 0) = UNKNOWN; bucket(-1, 3) = UNKNOWN").told("del 10;del 20;del 30")
            .due("bucket(0, 0) = 6; bucket(1, 0) = UNKNOWN");
        run("promise 16: OUTSIDE, what")
            .due("bucket(0, -1) = OUTSIDE; bucket(0, 4) = OUTSIDE; bucket(0, MIN) = OUTSIDE; bucket(0, MAX) = OUTSIDE");
        run("promise 16: UNKNOWN ahead of OUTSIDE").due("bucket(1, 4) = UNKNOWN; bucket(-1, -1) = UNKNOWN");
        run("promise 16: OUTSIDE ahead of NONE").due("bucket(0, 4) = OUTSIDE; bucket(0, 2) = NONE");
        run("promise 16: NONE (2, 3)").due("bucket(0, 0) = 0; bucket(0, 1) = 255; bucket(0, 2) = NONE; bucket(0, 3) = NONE; add(0) = 1")
            .due("bucket(0, 2) = 0; bucket(0, 3) = 0; remove(0) = 0; bucket(0, 2) = NONE; bucket(0, 3) = NONE; bucket(0, 1) = 255");
        run("promise 16: the least KEY, the greatest; the MARK is not below it").told("fill 10 10 9")
            .due("bucket(0, 2) = 10; bucket(0, 3) = 40; bucket(1, 2) = 50")
            .due("bucket(1, 3) = 90; remove(40) = 8; bucket(0, 3) = 30; bucket(0, 1) = 40; remove(50) = 7; bucket(1, 2) = 60; add(255) = 8")
            .due("bucket(1, 3) = 255; add(0) = 9; bucket(0, 2) = 0");
        run("promise 16: the last of the most BUCKETS there can be of 96 put in").told("plan 16 2;fill 0 9 96").due("count(3) = 23")
            .due("bucket(22, 1) = 65535; bucket(22, 0) = 8; bucket(23, 1) = UNKNOWN; bucket(21, 1) = 783; bucket(0, 1) = 27");
    }

    private static void level() {
        run("promise 17: UNKNOWN, a LEVEL is 0 .. b")
            .due("level(-1) = UNKNOWN; level(9) = UNKNOWN; level(MIN) = UNKNOWN; level(MAX) = UNKNOWN")
            .due("level(0) = 1; level(8) = 1").told("plan 4 2").due("level(4) = 1; level(5) = UNKNOWN").told("plan 16 2")
            .due("level(16) = 1; level(17) = UNKNOWN");
        run("promise 17: LEVEL 0 has one beginning, LEVEL b as many as BUCKETS").told("fill 0 2 96")
            .due("count(3) = 23; level(0) = 1; level(8) = 23; level(1) = 2");
        run("promise 17: unlike ones").told("plan 4 2;fill 0 1 16")
            .due("MARKS = 3 7 15; level(1) = 2; level(2) = 3; level(3) = 3; level(4) = 3");
    }

    private static void levelsTakenOut() {
        run("promise 17: beginnings that no MARK has any more are gone").told("fill 1 1 13")
            .due("MARKS = 4 8 255; level(4) = 2; level(5) = 3; level(8) = 3; count(4) = 21")
            .told("del 1;del 2;del 3").due("MARKS = 8 255; level(4) = 2; level(5) = 2; level(8) = 2; count(4) = 17")
            .told("del 5;del 6;del 7;del 8")
            .due("MARKS = 255; level(1) = 1; level(8) = 1; count(4) = 9");
        run("promise 17: a MARK keeps its beginnings though its KEY is gone").told("fill 1 1 9;del 4")
            .due("MARKS = 4 255; level(8) = 2; marks(8, 4) = 1");
    }

    private static void marks() {
        run("promise 18: UNKNOWN, the LEVEL")
            .due("marks(-1, 0) = UNKNOWN; marks(9, 0) = UNKNOWN; marks(MIN, 0) = UNKNOWN; marks(MAX, 0) = UNKNOWN; marks(32, 0) = UNKNOWN")
            .told("plan 4 2").due("marks(4, 15) = 1; marks(5, 15) = UNKNOWN");
        run("promise 18: UNKNOWN ahead of OUTSIDE")
            .due("marks(9, -1) = UNKNOWN; marks(-1, -1) = UNKNOWN; marks(9, 512) = UNKNOWN; marks(-1, 1) = UNKNOWN");
        Run run = run("promise 18: OUTSIDE, p is no number of l bits").told("plan 16 2");
        for (int l = 0; l <= 16; l++) {
            run.due("marks(%d, %d) = 1; marks(%d, %d) = OUTSIDE; marks(%d, -1) = OUTSIDE", l, (1 << l) - 1, l, 1 << l, l);
        }
        run.due("marks(16, MIN) = OUTSIDE; marks(16, MAX) = OUTSIDE; marks(0, MAX) = OUTSIDE; marks(0, 0) = 1");
        run("promise 18: 0, none").due("marks(1, 0) = 0; marks(8, 0) = 0; marks(8, 254) = 0; marks(8, 255) = 1").told("fill 0 1 9")
            .due("marks(8, 3) = 1")
            .due("marks(8, 2) = 0; marks(8, 4) = 0; marks(1, 0) = 1; marks(0, 0) = 2");
        run("promise 18: 0 itself is a MARK's beginning, and so is the whole MARK").told("plan 4 2;fill 0 1 16")
            .due("MARKS = 3 7 15; marks(1, 0) = 2; marks(2, 0) = 1")
            .due("marks(2, 2) = 0; marks(4, 3) = 1; marks(4, 0) = 0; marks(4, 15) = 1; marks(0, 0) = 3; marks(0, 1) = OUTSIDE");
    }

    private static void under() {
        run("promise 19: UNKNOWN")
            .due("under(-1, 0, 0) = UNKNOWN; under(9, 0, 0) = UNKNOWN; under(MIN, 0, 0) = UNKNOWN; under(MAX, 0, 1) = UNKNOWN");
        run("promise 19: UNKNOWN ahead of OUTSIDE")
            .due("under(9, -1, 2) = UNKNOWN; under(-1, 0, -1) = UNKNOWN; under(9, 512, 0) = UNKNOWN");
        Run run = run("promise 19: OUTSIDE, p is no number of l bits").told("plan 16 2");
        for (int l = 0; l <= 16; l++) {
            run.due("under(%d, %d, 0) = 65535; under(%d, %d, 1) = OUTSIDE; under(%d, -1, 0) = OUTSIDE", l, (1 << l) - 1, l, 1 << l, l);
        }
        run("promise 19: OUTSIDE, end")
            .due("under(0, 0, -1) = OUTSIDE; under(0, 0, 2) = OUTSIDE; under(0, 0, MIN) = OUTSIDE; under(0, 0, MAX) = OUTSIDE")
            .due("under(0, 0, 1) = 255");
        run("promise 19: OUTSIDE ahead of NONE")
            .due("under(8, 0, 2) = OUTSIDE; under(8, 0, -1) = OUTSIDE; under(8, 256, 0) = OUTSIDE; under(8, 0, 0) = NONE");
        run("promise 19: NONE")
            .due("under(1, 0, 0) = NONE; under(1, 0, 1) = NONE; under(8, 254, 0) = NONE; under(8, 254, 1) = NONE; under(8, 255, 1) = 255");
        run("promise 19: the least, the greatest").told("fill 1 1 13")
            .due("MARKS = 4 8 255; under(0, 0, 0) = 4; under(0, 0, 1) = 255; under(1, 0, 0) = 4")
            .due("under(1, 0, 1) = 8; under(1, 1, 0) = 255; under(1, 1, 1) = 255; under(5, 0, 1) = 4; under(5, 1, 0) = 8")
            .due("under(8, 8, 0) = 8; under(8, 8, 1) = 8")
            .due("under(8, 7, 0) = NONE; under(8, 9, 1) = NONE; under(5, 2, 0) = NONE");
    }
}
