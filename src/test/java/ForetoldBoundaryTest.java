/**
 * The boundary sentences of "3 FORETOLD" and of promises 20 to 24, one part for each;
 * a part's name begins with the promise, and the document's words follow.
 */
public final class ForetoldBoundaryTest {
    private static final Due due = new Due("ForetoldBoundaryTest");

    public static void main(String[] args) {
        sweepBounds();
        sweepEnds();
        sweepLeastFirst();
        sweepAll();
        sweepChangesNothing();
        floodBounds();
        floodTop();
        floodNinetySix();
        floodSplits();
        floodChangesNothing();
        dearestBounds();
        dearestLeast();
        dearestCost();
        meanBounds();
        meanLowestTerms();
        spreadBounds();
        for (int b = 4; b <= 16; b++) {
            spreadOfOneMark(b);
        }
        spreadNone();
        spreadGreatest();
        due.end();
    }

    private static Run run(String part) {
        return new Run(due, part);
    }

    private static void sweepIs(Run run, int a, int c, int buckets, int splits, int joins) {
        run.due("sweep(%1$d, %2$d, 0) = %3$d; sweep(%1$d, %2$d, 1) = %4$d; sweep(%1$d, %2$d, 2) = %5$d", a, c, buckets, splits, joins);
    }

    private static void sweepBounds() {
        run("promise 20: OUTSIDE, a and c are 0 .. TOP")
            .due("sweep(-1, 5, 0) = OUTSIDE; sweep(0, 256, 0) = OUTSIDE; sweep(256, 256, 0) = OUTSIDE")
            .due("sweep(-1, -1, 0) = OUTSIDE; sweep(MIN, 5, 1) = OUTSIDE; sweep(0, MAX, 2) = OUTSIDE; sweep(MIN, MAX, 0) = OUTSIDE")
            .due("sweep(0, 0, 0) = 1; sweep(0, 255, 0) = 1; sweep(255, 255, 0) = 1").told("plan 4 2")
            .due("sweep(0, 15, 0) = 1; sweep(0, 16, 0) = OUTSIDE");
        run("promise 20: OUTSIDE, a not above c")
            .due("sweep(5, 4, 0) = OUTSIDE; sweep(255, 0, 1) = OUTSIDE; sweep(1, 0, 2) = OUTSIDE; sweep(5, 5, 0) = 1; sweep(4, 5, 0) = 1");
        run("promise 20: OUTSIDE, what")
            .due("sweep(0, 5, -1) = OUTSIDE; sweep(0, 5, 3) = OUTSIDE; sweep(0, 5, MIN) = OUTSIDE; sweep(0, 5, MAX) = OUTSIDE")
            .due("sweep(0, 5, 2) = 0");
    }

    private static void sweepEnds() {
        Run ends = run("promise 20: all KEYS a to c, both of them too").told("fill 1 1 9").due("MARKS = 4 255; SIZES = 4 5");
        sweepIs(ends, 1, 2, 2, 0, 0);
        sweepIs(ends, 1, 3, 1, 0, 1);
        sweepIs(ends, 3, 4, 2, 0, 0);
        sweepIs(ends, 2, 4, 1, 0, 1);
        sweepIs(ends, 0, 2, 2, 0, 0);
        sweepIs(ends, 5, 7, 2, 0, 0);
        sweepIs(ends, 5, 8, 1, 0, 1);
        sweepIs(ends, 4, 4, 2, 0, 0);
        Run none = run("promise 20: there are no KEYS, or none from a to c");
        sweepIs(none, 0, 255, 1, 0, 0);
        none.told("fill 10 10 9");
        sweepIs(none, 0, 9, 2, 0, 0);
        sweepIs(none, 41, 49, 2, 0, 0);
        sweepIs(none, 91, 255, 2, 0, 0);
        Run one = run("promise 20: one KEY").told("add 255");
        sweepIs(one, 255, 255, 1, 0, 0);
        sweepIs(one, 0, 254, 1, 0, 0);
    }

    private static void sweepLeastFirst() {
        Run run = run("promise 20: the least first").told("fill 1 1 9;add 12").due("MARKS = 4 255; SIZES = 4 6");
        // 2, 3, 4 gone: 1 and six more are split to 1 5 6, 7 8 9 12; 5, 6 gone: joined again.
        // The greatest first would be joined once, at the end, and never be split.
        sweepIs(run, 2, 7, 1, 1, 2);
        sweepIs(run, 1, 3, 2, 1, 1);
    }

    private static void sweepAll() {
        Run run = run("promise 20: all of 96 KEYS").told("plan 10 2;fill 0 7 96").due("count(3) = 23; count(5) = 22; count(6) = 0");
        sweepIs(run, 0, 1023, 1, 1, 23);
        Run before = run("promise 20: SPLITS, JOINS from before are not of it").told("fill 1 1 9;add 12;del 1;del 2;del 3")
            .due("COUNTS = 8 2 7 2 17 2 1");
        sweepIs(before, 0, 0, 2, 0, 0);
        sweepIs(before, 0, 5, 1, 0, 1);
        for (int s = 2; s <= 5; s++) {
            Run sized = run("promise 20: SIZE as it is now: " + s).told("plan 6 " + s + ";fill 0 1 " + (4 * s + 1));
            sweepIs(sized, 0, s - 1, 2, 0, 0);
            sweepIs(sized, 0, s, 1, 0, 1);
        }
    }

    private static void sweepChangesNothing() {
        run("promise 20: nothing changes").told("fill 0 1 10").due("add(50) = 11; keep(0) = 11; remove(0) = 10").type("del 3")
            .due("sweep(0, 255, 0) = 1; sweep(0, 255, 2) = 2; sweep(0, 255, 1) = 1; COUNTS = 8 2 10 2 17 1 0 0 2 5")
            .due("KEYS = 1 2 3 4 5 6 7 8 9 50; MARKS = 3 255")
            .due("undo() = 1; has(0) = 1; undo() = 0; has(50) = 0; back(0) = 11; MARKS = 3 255; SIZES = 4 7; read() = 1; count(2) = 10");
    }

    private static void floodIs(Run run, int a, int d, int n, int buckets, int splits, int keys) {
        run.due("flood(%1$d, %2$d, %3$d, 0) = %4$d; flood(%1$d, %2$d, %3$d, 1) = %5$d; flood(%1$d, %2$d, %3$d, 2) = %6$d", a, d, n, buckets,
            splits, keys);
    }

    private static void floodBounds() {
        run("promise 21: OUTSIDE, A 0 to TOP")
            .due("flood(-1, 1, 1, 2) = OUTSIDE; flood(0, 1, 1, 2) = 1; flood(255, 1, 1, 2) = 1; flood(256, 1, 1, 2) = OUTSIDE")
            .due("flood(MIN, 1, 1, 0) = OUTSIDE; flood(MAX, 1, 1, 0) = OUTSIDE").told("plan 4 2")
            .due("flood(15, 1, 1, 2) = 1; flood(16, 1, 1, 2) = OUTSIDE");
        run("promise 21: OUTSIDE, D 1 to 999")
            .due("flood(0, 0, 1, 2) = OUTSIDE; flood(0, 1, 1, 2) = 1; flood(0, 999, 1, 2) = 1; flood(0, 1000, 1, 2) = OUTSIDE")
            .due("flood(0, -1, 1, 0) = OUTSIDE; flood(0, MIN, 1, 0) = OUTSIDE; flood(0, MAX, 1, 0) = OUTSIDE");
        run("promise 21: OUTSIDE, N 1 to 96")
            .due("flood(0, 1, 0, 2) = OUTSIDE; flood(0, 1, 1, 2) = 1; flood(0, 1, 96, 2) = 96; flood(0, 1, 97, 2) = OUTSIDE")
            .due("flood(0, 1, -1, 0) = OUTSIDE; flood(0, 1, MIN, 0) = OUTSIDE; flood(0, 1, MAX, 0) = OUTSIDE");
        run("promise 21: OUTSIDE, what").due("flood(0, 1, 1, -1) = OUTSIDE; flood(0, 1, 1, 3) = OUTSIDE; flood(0, 1, 1, MIN) = OUTSIDE")
            .due("flood(0, 1, 1, MAX) = OUTSIDE");
    }

    private static void floodTop() {
        Run run = run("promise 21: those that are not above TOP");
        floodIs(run, 255, 1, 96, 1, 0, 1);
        floodIs(run, 254, 1, 96, 1, 0, 2);
        floodIs(run, 251, 2, 96, 1, 0, 3);
        floodIs(run, 252, 2, 96, 1, 0, 2);
        floodIs(run, 0, 999, 96, 1, 0, 1);
        floodIs(run, 248, 1, 96, 1, 0, 8);
        floodIs(run, 247, 1, 96, 2, 1, 9);
        Run most = run("promise 21: the farthest there is").told("plan 16 5");
        floodIs(most, 65535, 999, 96, 1, 0, 1);
        floodIs(most, 0, 999, 96, 6, 5, 66);
    }

    private static void floodNinetySix() {
        Run full = run("promise 21: there are 96 KEYS: none comes").told("fill 0 2 96");
        floodIs(full, 1, 2, 96, 23, 0, 96);
        floodIs(full, 0, 2, 96, 23, 0, 96);
        Run one = run("promise 21: there are 95 KEYS: one comes").told("fill 0 2 95");
        floodIs(one, 1, 2, 96, 23, 0, 96);
        floodIs(one, 0, 2, 96, 23, 0, 96);
        floodIs(one, 0, 2, 95, 23, 0, 95);
        Run there = run("promise 21: those that are there take no place").told("fill 0 1 90");
        floodIs(there, 0, 1, 96, 23, 1, 96);
        floodIs(there, 50, 1, 40, 22, 0, 90);
    }

    private static void floodSplits() {
        for (int s = 2; s <= 5; s++) {
            Run run = run("promise 21: more than 4 s are SPLIT: s " + s).told("plan 8 " + s);
            floodIs(run, 0, 1, 4 * s, 1, 0, 4 * s);
            floodIs(run, 0, 1, 4 * s + 1, 2, 1, 4 * s + 1);
            floodIs(run, 0, 1, 6 * s, 2, 1, 6 * s);
            floodIs(run, 0, 1, 6 * s + 1, 3, 2, 6 * s + 1);
        }
        Run before = run("promise 21: SPLITS from before are not of it").told("fill 0 1 13").due("count(5) = 2");
        floodIs(before, 0, 1, 13, 3, 0, 13);
        floodIs(before, 100, 1, 4, 4, 1, 17);
        floodIs(before, 100, 1, 3, 3, 0, 16);
    }

    private static void floodChangesNothing() {
        run("promise 21: nothing changes").told("fill 0 1 8").due("add(50) = 9; keep(0) = 9; remove(50) = 8").type("add 99")
            .due("flood(60, 1, 96, 0) = 23; flood(60, 1, 96, 1) = 21; flood(60, 1, 96, 2) = 96; COUNTS = 8 2 8 2 17 1 0 0 2 6")
            .due("KEYS = 0 1 2 3 4 5 6 7")
            .due("MARKS = 3 255; undo() = 1; undo() = 0; MARKS = 255; back(0) = 9; MARKS = 3 255; read() = 1; count(2) = 10");
    }

    private static void dearestBounds() {
        run("promise 22: NONE, there are none")
            .due("dearest(0) = NONE; dearest(1) = NONE; add(9) = 1; dearest(0) = 9; dearest(1) = 4; remove(9) = 0")
            .due("dearest(0) = NONE; dearest(1) = NONE");
        run("promise 22: OUTSIDE")
            .due("add(9) = 1; dearest(-1) = OUTSIDE; dearest(2) = OUTSIDE; dearest(MIN) = OUTSIDE; dearest(MAX) = OUTSIDE");
        run("promise 22: OUTSIDE ahead of NONE").due("dearest(-1) = OUTSIDE; dearest(2) = OUTSIDE");
        run("promise 22: one KEY, 0 or TOP").told("plan 4 2;add 0").due("dearest(0) = 0; dearest(1) = 3").told("plan 4 2;add 15")
            .due("dearest(0) = 15; dearest(1) = 4")
            .told("plan 16 2;add 65535").due("dearest(0) = 65535; dearest(1) = 6");
    }

    private static void dearestLeast() {
        // 5 bits: 2 probes and 2 looks for 0 and for 7, 3 probes and 2 looks for 24 and for 31.
        run("promise 22: of several the least").told("plan 5 2;add 7;add 0").due("dearest(0) = 0; dearest(1) = 4")
            .told("plan 5 2;add 31;add 24")
            .due("dearest(0) = 24; dearest(1) = 5").told("plan 5 2;add 0;add 31").due("dearest(0) = 31; dearest(1) = 5");
        run("promise 22: of several in several BUCKETS the least").told("fill 10 10 9")
            .due("dearest(0) = 50; dearest(1) = 7; remove(50) = 8")
            .due("dearest(0) = 60; dearest(1) = 7");
    }

    private static void dearestCost() {
        // Without its link 50 would cost no more than 10: 3 probes and 3 looks.
        run("promise 22: COST, PROBES, LINKS and LOOKS together").told("fill 10 10 9")
            .due("search(50, 0) = 3; search(50, 1) = 1; search(50, 2) = 3")
            .due("search(10, 0) = 3; search(10, 1) = 0; search(10, 2) = 3; dearest(0) = 50; dearest(1) = 7");
        run("promise 22: nothing changes").due("add(1) = 1; keep(0) = 1; dearest(0) = 1; count(8) = 1; undo() = 0; back(0) = 1");
    }

    private static void meanBounds() {
        run("promise 23: NOT, there are no KEYS")
            .due("mean(0) = NOT; mean(1) = NOT; add(9) = 1; mean(0) = 4; mean(1) = 1; remove(9) = 0; mean(0) = NOT; mean(1) = NOT");
        run("promise 23: OUTSIDE").due("add(9) = 1; mean(-1) = OUTSIDE; mean(2) = OUTSIDE; mean(MIN) = OUTSIDE; mean(MAX) = OUTSIDE");
        run("promise 23: OUTSIDE ahead of NOT").due("mean(-1) = OUTSIDE; mean(2) = OUTSIDE; mean(0) = NOT");
        run("promise 23: one KEY").told("plan 16 2;add 65535").due("mean(0) = 6; mean(1) = 1").told("plan 5 2;add 7")
            .due("mean(0) = 3; mean(1) = 1");
    }

    private static void meanLowestTerms() {
        run("promise 23: lowest terms: a whole number").told("plan 5 2;add 7;add 0").due("mean(0) = 4; mean(1) = 1");
        run("promise 23: lowest terms: nothing in common").told("plan 5 2;add 7;add 31").due("mean(0) = 9; mean(1) = 2");
        // 5, 5, 4 and 4.
        run("promise 23: lowest terms: 18 of 4").told("plan 5 2;add 0;add 3;add 5;add 7").due("mean(0) = 9; mean(1) = 2");
        run("promise 23: lowest terms: 57 of 9").told("fill 10 10 9").due("mean(0) = 19; mean(1) = 3");
        run("promise 23: of 96 KEYS").told("plan 10 2;fill 0 7 96").due("mean(0) = 629; mean(1) = 96");
    }

    private static void spreadBounds() {
        run("promise 24: UNKNOWN, the LEVEL")
            .due("spread(-1, 0) = UNKNOWN; spread(9, 0) = UNKNOWN; spread(MIN, 1) = UNKNOWN; spread(MAX, 1) = UNKNOWN")
            .due("spread(0, 0) = 127; spread(8, 0) = 255").told("plan 4 2").due("spread(4, 0) = 15; spread(5, 0) = UNKNOWN");
        run("promise 24: OUTSIDE")
            .due("spread(0, -1) = OUTSIDE; spread(0, 2) = OUTSIDE; spread(8, MIN) = OUTSIDE; spread(8, MAX) = OUTSIDE");
        run("promise 24: UNKNOWN ahead of OUTSIDE").due("spread(-1, 2) = UNKNOWN; spread(9, -1) = UNKNOWN");
        run("promise 24: OUTSIDE ahead of NONE").told("plan 4 2;fill 0 1 16")
            .due("spread(0, 2) = OUTSIDE; spread(0, -1) = OUTSIDE; spread(0, 0) = NONE");
    }

    private static void spreadOfOneMark(int b) {
        int top = (1 << b) - 1;
        Run run = run("promise 24: no KEY, LENGTH 0 to b: " + b).told("plan " + b + " 2");
        for (int l = 0; l < b; l++) {
            int many = 1 << (b - l - 1);
            run.due("spread(%1$d, 0) = %2$d; spread(%1$d, 1) = %3$d; search(%2$d, 3) = %1$d", l, top - many, many);
        }
        run.due("spread(%d, 0) = %d; spread(%d, 1) = 1", b, top, b);
    }

    private static void spreadNone() {
        // Marks 0011, 0111 and 1111: a mark begins with 0, one with 1.
        Run run = run("promise 24: NONE").told("plan 4 2;fill 0 1 16").due("MARKS = 3 7 15; spread(0, 0) = NONE; spread(0, 1) = NONE");
        run.due("spread(1, 0) = 11; spread(1, 1) = 4; spread(2, 0) = 13; spread(2, 1) = 6; spread(3, 0) = 14; spread(3, 1) = 3; spread(4, 0) = 15; spread(4, 1) = 3");
    }

    private static void spreadGreatest() {
        run("promise 24: the greatest is below the MARKS that begin otherwise").told("plan 4 2;fill 1 1 4;fill 8 1 8;add 5")
            .due("MARKS = 4 10 15")
            .due("spread(1, 0) = 3; spread(1, 1) = 4; spread(4, 0) = 15; spread(4, 1) = 3; spread(0, 1) = NONE; spread(2, 0) = 13")
            .due("spread(2, 1) = 6; spread(3, 1) = 3");
        // Marks 00000100, 00001000, 10000010 and 11111111: behind 0 no mark goes on with 1, behind 10 none does.
        run("promise 24: the greatest goes on with 1, where no MARK does")
            .told("plan 8 2;fill 1 1 9;fill 128 1 8").due("MARKS = 4 8 130 255")
            .due("spread(0, 0) = NONE; spread(0, 1) = NONE; spread(1, 0) = 127; spread(1, 1) = 64")
            .due("spread(2, 0) = 223; spread(2, 1) = 96; spread(8, 0) = 255; spread(8, 1) = 4");
        run("promise 24: the greatest is among the least MARK's, and goes on with 0")
            .told("plan 8 2;fill 120 1 9;fill 150 1 8")
            .due("MARKS = 123 127 152 255; spread(0, 0) = NONE; spread(1, 0) = 63; spread(1, 1) = 64");
        run("promise 24: a number has LENGTH b if it is a MARK, a KEY or not").told("fill 1 1 9;del 4")
            .due("MARKS = 4 255; spread(8, 1) = 2; spread(8, 0) = 255");
    }
}
