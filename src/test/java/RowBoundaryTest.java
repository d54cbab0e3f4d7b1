/**
 * The boundary sentences of "4 ROWS" and of promises 25 to 32, one part for each;
 * a part's name begins with the promise, and the document's words follow.
 */
public final class RowBoundaryTest {
    private static final long HALF = 1L << 62;
    private static final Due due = new Due("RowBoundaryTest");

    public static void main(String[] args) {
        rowBounds();
        rowIsNew();
        set();
        workRefused();
        workOrder();
        workAdds();
        workTakes();
        workMultiplies();
        bits();
        sumRefused();
        sumOver();
        sumTurned();
        load();
        loadFewer();
        drop();
        askedBefore();
        askedBehindRefused();
        due.end();
    }

    private static Run run(String part) {
        return new Run(due, part);
    }

    private static void rowBounds() {
        run("promise 25: ROWS 0 .. 2 are missing at first").due("drop(0) = NULL; drop(1) = NULL; drop(2) = NULL; count(7) = 0");
        run("promise 25: UNKNOWN, ROWS 0 .. 2")
            .due("row(-1, 1) = UNKNOWN; row(3, 1) = UNKNOWN; row(MIN, 1) = UNKNOWN; row(MAX, 1) = UNKNOWN; count(7) = 0")
            .due("row(0, 1) = 1; row(1, 1) = 1; row(2, 1) = 1; count(7) = 3");
        run("promise 25: 0 to 12 longs, OUTSIDE (n above 12)")
            .due("row(0, 13) = OUTSIDE; row(0, MAX) = OUTSIDE; drop(0) = NULL; row(0, 12) = 12; row(0, 13) = OUTSIDE")
            .due("count(7) = 12; row(1, 0) = 0; drop(1) = 0; set(0, 11, 1) = 1; set(0, 12, 1) = INDEX");
        run("promise 25: SIZE, fewer than none")
            .due("row(0, -1) = SIZE; row(0, MIN) = SIZE; drop(0) = NULL; row(0, 0) = 0; row(0, -1) = SIZE; drop(0) = 0");
        run("promise 25: UNKNOWN ahead of OUTSIDE and SIZE")
            .due("row(3, 13) = UNKNOWN; row(-1, 13) = UNKNOWN; row(3, -1) = UNKNOWN; row(-1, -1) = UNKNOWN");
        for (int n = 0; n <= 12; n++) {
            run("promise 25: n noughts: n " + n)
                .due("row(1, %1$d) = %1$d; count(7) = %1$d; sum(1) = %1$d; asked() = 0; set(1, %1$d, 1) = INDEX", n);
        }
    }

    private static void rowIsNew() {
        run("promise 25: a new one of noughts, though there was one")
            .due("row(0, 2) = 2; set(0, 0, 5) = 1; set(0, 1, 6) = 1; row(0, 2) = 2; sum(0) = 2; asked() = 0")
            .due("work(0, 1, 0, 0) = 1; asked() = 0");
        run("promise 25: shorter, then longer: noughts again")
            .due("row(0, 3) = 3; set(0, 2, 9) = 1; row(0, 1) = 1; row(0, 3) = 3; work(0, 2, 0, 0) = 1; asked() = 0");
        run("promise 25: the other ROWS stay")
            .due("row(0, 12) = 12; row(1, 12) = 12; row(2, 12) = 12; set(0, 11, 1) = 1; set(1, 0, 2) = 1; set(1, 11, 3) = 1")
            .due("set(2, 0, 4) = 1")
            .due("row(1, 12) = 12; sum(0) = 12; asked() = 1; sum(1) = 12; asked() = 0; sum(2) = 12; asked() = 4");
        run("promise 25: refused, the ROW stays as it was")
            .due("row(0, 2) = 2; set(0, 1, 8) = 1; row(0, 13) = OUTSIDE; row(0, -1) = SIZE; row(3, 2) = UNKNOWN; sum(0) = 2; asked() = 8");
    }

    private static void set() {
        run("promise 26: UNKNOWN")
            .due("set(-1, 0, 1) = UNKNOWN; set(3, 0, 1) = UNKNOWN; set(MIN, 0, 1) = UNKNOWN; set(MAX, 0, 1) = UNKNOWN");
        run("promise 26: NULL, the ROW is missing")
            .due("set(0, 0, 1) = NULL; set(2, 0, 1) = NULL; row(0, 1) = 1; set(0, 0, 1) = 1; drop(0) = 1; set(0, 0, 1) = NULL");
        run("promise 26: INDEX, a place that there is not")
            .due("row(0, 2) = 2; set(0, -1, 1) = INDEX; set(0, 2, 1) = INDEX; set(0, MIN, 1) = INDEX; set(0, MAX, 1) = INDEX")
            .due("set(0, 0, 3) = 1; set(0, 1, 4) = 1; sum(0) = 2; asked() = 7; row(0, 0) = 0; set(0, 0, 1) = INDEX");
        run("promise 26: INDEX, no place of the next ROW")
            .due("row(0, 12) = 12; row(1, 12) = 12; set(0, 12, 1) = INDEX; set(1, -1, 1) = INDEX; sum(0) = 12; asked() = 0")
            .due("sum(1) = 12; asked() = 0");
        run("promise 26: UNKNOWN ahead of NULL ahead of INDEX")
            .due("set(3, -1, 1) = UNKNOWN; set(-1, 12, 1) = UNKNOWN; set(0, -1, 1) = NULL; set(0, 12, 1) = NULL");
        run("promise 26: the ends of an int")
            .due("row(2, 12) = 12; set(2, 0, MIN) = 1; set(2, 11, MAX) = 1; work(2, 0, 0, 0) = 1; asked() = -2147483648")
            .due("work(2, 11, 0, 0) = 1; asked() = 2147483647; set(2, 0, 0) = 1; set(2, 11, -1) = 1; sum(2) = 12; asked() = -1");
        run("promise 26: asked() is as before").due("row(0, 1) = 1; work(0, 0, 0, 5) = 1; set(0, 0, 9) = 1; asked() = 5");
    }

    private static void workRefused() {
        run("promise 27: UNKNOWN")
            .due("work(-1, 0, 0, 1) = UNKNOWN; work(3, 0, 0, 1) = UNKNOWN; work(MIN, 0, 0, 1) = UNKNOWN; work(MAX, 0, 0, 1) = UNKNOWN");
        run("promise 27: OUTSIDE, way")
            .due("row(0, 1) = 1; work(0, 0, -1, 1) = OUTSIDE; work(0, 0, 3, 1) = OUTSIDE; work(0, 0, MIN, 1) = OUTSIDE")
            .due("work(0, 0, MAX, 1) = OUTSIDE")
            .due("work(0, 0, 0, 6) = 1; work(0, 0, 1, 1) = 1; work(0, 0, 2, 3) = 1; asked() = 15");
        run("promise 27: NULL")
            .due("work(1, 0, 0, 1) = NULL; row(1, 1) = 1; work(1, 0, 0, 1) = 1; drop(1) = 1; work(1, 0, 0, 1) = NULL; asked() = 1");
        run("promise 27: INDEX").due("row(0, 3) = 3; work(0, -1, 0, 1) = INDEX; work(0, 3, 0, 1) = INDEX; work(0, MIN, 1, 1) = INDEX")
            .due("work(0, MAX, 2, 1) = INDEX")
            .due("work(0, 2, 0, 4) = 1; work(0, 0, 0, 5) = 1; sum(0) = 3; asked() = 9; row(1, 0) = 0; work(1, 0, 0, 1) = INDEX");
    }

    private static void workOrder() {
        run("promise 27: UNKNOWN ahead of OUTSIDE ahead of NULL ahead of INDEX")
            .due("work(3, -1, 3, 1) = UNKNOWN; work(-1, 0, -1, 1) = UNKNOWN; work(0, -1, 3, 1) = OUTSIDE")
            .due("work(0, -1, 0, 1) = NULL; work(0, 12, 2, 1) = NULL; row(0, 1) = 1; work(0, -1, 3, 1) = OUTSIDE")
            .due("work(0, 1, -1, 1) = OUTSIDE; work(0, 1, 0, 1) = INDEX");
        most(run("promise 27: INDEX, OUTSIDE ahead of OVER"), 0)
            .due("work(0, 1, 0, 1) = INDEX; work(0, 0, 3, 1) = OUTSIDE; work(1, 0, 0, 1) = NULL; work(0, 0, 0, 1) = OVER; asked() = MOST");
    }

    /** A row of one place that has the greatest long. */
    private static Run most(Run run, int row) {
        return least(run, row).due("work(%1$d, 0, 0, 1) = 1; work(%1$d, 0, 2, -1) = 1; asked() = MOST", row);
    }

    /** A row of one place that has the least long. */
    private static Run least(Run run, int row) {
        return run.due("row(%1$d, 1) = 1; set(%1$d, 0, MIN) = 1; work(%1$d, 0, 2, MIN) = 1; work(%1$d, 0, 2, -2) = 1; asked() = LEAST", row);
    }

    private static void workAdds() {
        most(run("promise 27: added, the greatest long and 0, 1"), 0)
            .due("work(0, 0, 0, 0) = 1; asked() = MOST; work(0, 0, 0, 1) = OVER; work(0, 0, 0, MAX) = OVER; asked() = MOST")
            .due("work(0, 0, 0, -1) = 1; asked() = %d; work(0, 0, 0, 2) = OVER; work(0, 0, 0, 1) = 1; asked() = MOST", Long.MAX_VALUE - 1);
        least(run("promise 27: added, the least long and 0, -1"), 1)
            .due("work(1, 0, 0, 0) = 1; asked() = LEAST; work(1, 0, 0, -1) = OVER; work(1, 0, 0, MIN) = OVER; asked() = LEAST")
            .due("work(1, 0, 0, 1) = 1; asked() = %d; work(1, 0, 0, -2) = OVER; work(1, 0, 0, -1) = 1; asked() = LEAST", Long.MIN_VALUE + 1);
        run("promise 27: added, beyond an int")
            .due("row(0, 1) = 1; set(0, 0, MAX) = 1; work(0, 0, 0, MAX) = 1; asked() = 4294967294; set(0, 0, MIN) = 1")
            .due("work(0, 0, 0, MIN) = 1; asked() = -4294967296");
    }

    private static void workTakes() {
        least(run("promise 27: taken from it, the least long and 0, 1"), 0)
            .due("work(0, 0, 1, 0) = 1; asked() = LEAST; work(0, 0, 1, 1) = OVER; work(0, 0, 1, MAX) = OVER; asked() = LEAST")
            .due("work(0, 0, 1, -1) = 1; asked() = %d; work(0, 0, 1, 2) = OVER; work(0, 0, 1, 1) = 1; asked() = LEAST", Long.MIN_VALUE + 1);
        most(run("promise 27: taken from it, the greatest long and 0, -1"), 2)
            .due("work(2, 0, 1, 0) = 1; asked() = MOST; work(2, 0, 1, -1) = OVER; work(2, 0, 1, MIN) = OVER; asked() = MOST")
            .due("work(2, 0, 1, 1) = 1; asked() = %d; work(2, 0, 1, -2) = OVER; work(2, 0, 1, -1) = 1; asked() = MOST", Long.MAX_VALUE - 1);
        run("promise 27: the least int is taken")
            .due("row(0, 1) = 1; work(0, 0, 1, MIN) = 1; asked() = 2147483648; set(0, 0, MIN) = 1; work(0, 0, 1, MAX) = 1")
            .due("asked() = -4294967295");
    }

    private static void workMultiplies() {
        most(run("promise 27: multiplied, the greatest long"), 0)
            .due("work(0, 0, 2, 1) = 1; asked() = MOST; work(0, 0, 2, 2) = OVER; work(0, 0, 2, -2) = OVER; work(0, 0, 2, MAX) = OVER")
            .due("work(0, 0, 2, MIN) = OVER")
            .due("asked() = MOST; work(0, 0, 2, -1) = 1; asked() = %d; work(0, 0, 2, 0) = 1; asked() = 0", -Long.MAX_VALUE);
        least(run("promise 27: multiplied, the least long"), 0)
            .due("work(0, 0, 2, 1) = 1; asked() = LEAST; work(0, 0, 2, -1) = OVER; work(0, 0, 2, 2) = OVER; work(0, 0, 2, -2) = OVER")
            .due("work(0, 0, 2, MIN) = OVER; asked() = LEAST")
            .due("work(0, 0, 2, MAX) = OVER; sum(0) = 1; asked() = LEAST; work(0, 0, 2, 0) = 1; asked() = 0");
        run("promise 27: multiplied, 2 to the 62 by 2, by -2")
            .due("row(0, 1) = 1; set(0, 0, MIN) = 1; work(0, 0, 2, MIN) = 1; asked() = %d; work(0, 0, 2, 2) = OVER; asked() = %d", HALF, HALF)
            .due("work(0, 0, 2, -2) = 1; asked() = LEAST");
        run("promise 27: multiplied, -(2 to the 62) by 2, by -2")
            .due("row(0, 1) = 1; set(0, 0, MIN) = 1; work(0, 0, 2, MIN) = 1; work(0, 0, 2, -1) = 1; asked() = %d; work(0, 0, 2, -2) = OVER", -HALF)
            .due("asked() = %d; work(0, 0, 2, 2) = 1; asked() = LEAST", -HALF);
        // Three times 3074457345618258602 is the greatest long less 1; three times one more is too much.
        run("promise 27: multiplied by 3, the last that a long can hold")
            .due("row(0, 1) = 1; set(0, 0, MAX) = 1; work(0, 0, 2, 1431655766) = 1; work(0, 0, 0, 0) = 1; asked() = 3074457345618258602")
            .due("work(0, 0, 0, 1) = 1; work(0, 0, 2, 3) = OVER; work(0, 0, 2, -3) = OVER; asked() = 3074457345618258603")
            .due("work(0, 0, 1, 1) = 1; work(0, 0, 2, -3) = 1; asked() = -9223372036854775806");
        run("promise 27: nought multiplied")
            .due("row(0, 1) = 1; work(0, 0, 2, MIN) = 1; asked() = 0; work(0, 0, 2, -1) = 1; asked() = 0; work(0, 0, 2, 0) = 1")
            .due("asked() = 0");
        run("promise 27: -1 multiplied by the ends of an int")
            .due("row(0, 2) = 2; set(0, 0, -1) = 1; work(0, 0, 2, MIN) = 1; asked() = 2147483648; set(0, 1, -1) = 1")
            .due("work(0, 1, 2, MAX) = 1; asked() = -2147483647");
    }

    private static void bits() {
        run("promise 28: UNKNOWN").due("bits(-1, 0) = UNKNOWN; bits(3, 0) = UNKNOWN; bits(MIN, 0) = UNKNOWN; bits(MAX, 0) = UNKNOWN");
        run("promise 28: NULL").due("bits(0, 0) = NULL; row(0, 1) = 1; bits(0, 0) = 1; drop(0) = 1; bits(0, 0) = NULL");
        run("promise 28: INDEX")
            .due("row(0, 2) = 2; bits(0, -1) = INDEX; bits(0, 2) = INDEX; bits(0, MIN) = INDEX; bits(0, MAX) = INDEX; bits(0, 0) = 1")
            .due("bits(0, 1) = 1; row(0, 0) = 0; bits(0, 0) = INDEX");
        run("promise 28: UNKNOWN ahead of NULL ahead of INDEX")
            .due("bits(3, -1) = UNKNOWN; bits(-1, 12) = UNKNOWN; bits(0, -1) = NULL; bits(2, 12) = NULL");
        run("promise 28: of the 64 bits: none, one, all")
            .due("row(0, 3) = 3; bits(0, 0) = 1; asked() = 0; set(0, 1, -1) = 1; bits(0, 1) = 1; asked() = 64; set(0, 2, 1) = 1")
            .due("bits(0, 2) = 1; asked() = 1");
        most(run("promise 28: the greatest long"), 0).due("bits(0, 0) = 1; asked() = 63");
        least(run("promise 28: the least long"), 0).due("bits(0, 0) = 1; asked() = 1; sum(0) = 1; asked() = LEAST");
        run("promise 28: the least int has 33")
            .due("row(0, 1) = 1; set(0, 0, MIN) = 1; bits(0, 0) = 1; asked() = 33; set(0, 0, MAX) = 1; bits(0, 0) = 1; asked() = 31");
    }

    private static void sumRefused() {
        run("promise 29: UNKNOWN").due("sum(-1) = UNKNOWN; sum(3) = UNKNOWN; sum(MIN) = UNKNOWN; sum(MAX) = UNKNOWN; asked() = 0");
        run("promise 29: NULL").due("sum(0) = NULL; sum(1) = NULL; sum(2) = NULL; row(2, 1) = 1; sum(2) = 1; drop(2) = 1; sum(2) = NULL");
        run("promise 29: a ROW without places").due("row(0, 1) = 1; work(0, 0, 0, 5) = 1; row(1, 0) = 0; sum(1) = 0; asked() = 0");
        run("promise 29: twelve places, the last too")
            .due("row(0, 12) = 12; set(0, 0, 1) = 1; set(0, 11, 2) = 1; sum(0) = 12; asked() = 3; sum(0) = 12; asked() = 3");
    }

    /** A row of three places: the least long, or the greatest, and two small numbers. */
    private static Run big(Run run, int place, boolean greatest, String rows) {
        run.due("row(0, 3) = 3; set(0, %1$d, MIN) = 1; work(0, %1$d, 2, MIN) = 1; work(0, %1$d, 2, -2) = 1", place);
        if (greatest) {
            run.due("work(0, %1$d, 0, 1) = 1; work(0, %1$d, 2, -1) = 1", place);
        }
        return run.due(rows);
    }

    private static void sumOver() {
        big(run("promise 29: the greatest long, together with noughts"), 0, true, "sum(0) = 3; asked() = MOST");
        big(run("promise 29: the least long, together with noughts"), 0, false, "sum(0) = 3; asked() = LEAST");
        big(run("promise 29: OVER by 1"), 0, true, "bits(0, 0) = 1; set(0, 1, 1) = 1; sum(0) = OVER; asked() = 63");
        big(run("promise 29: OVER by -1"), 0, false, "bits(0, 0) = 1; set(0, 2, -1) = 1; sum(0) = OVER; asked() = 1");
        big(run("promise 29: the first one first: OVER, though the last takes it back"), 0, true, "set(0, 1, 1) = 1; set(0, 2, -1) = 1; sum(0) = OVER");
        big(run("promise 29: the first one first: room is made ahead"), 0, true, "set(0, 1, -1) = 1; set(0, 2, 1) = 1; sum(0) = 3; asked() = MOST");
        big(run("promise 29: the first one first: the great one last"), 2, true, "set(0, 0, 1) = 1; set(0, 1, -1) = 1; sum(0) = 3; asked() = MOST");
        big(run("promise 29: the first one first: the great one last, OVER"), 2, true, "set(0, 0, -1) = 1; set(0, 1, 2) = 1; sum(0) = OVER");
        big(run("promise 29: the first one first: below"), 0, false, "set(0, 1, -1) = 1; set(0, 2, 1) = 1; sum(0) = OVER; set(0, 1, 1) = 1; set(0, 2, -1) = 1; sum(0) = 3; asked() = LEAST");
        big(run("promise 29: OVER changes nothing"), 1, true, "set(0, 2, 7) = 1; sum(0) = OVER; work(0, 2, 0, 0) = 1; asked() = 7; work(0, 1, 0, 0) = 1; asked() = MOST; count(7) = 3");
    }

    /** Two thirds of 2 to the 63 twice: a sum whose 64 bits are all other ones than both places' bits. */
    private static void sumTurned() {
        run("promise 29: OVER, though each of the 64 bits is turned")
            .due("row(0, 2) = 2; set(0, 0, 14002645) = 1; work(0, 0, 2, 65537) = 1; work(0, 0, 2, 6700417) = 1; asked() = 6148914691236517205")
            .due("set(0, 1, 14002645) = 1; work(0, 1, 2, 65537) = 1; work(0, 1, 2, 6700417) = 1; sum(0) = OVER; asked() = 6148914691236517205")
            .due("work(0, 1, 2, -1) = 1; sum(0) = 2; asked() = 0");
    }

    private static void load() {
        run("promise 30: UNKNOWN").due("load(-1, 0) = UNKNOWN; load(3, 0) = UNKNOWN; load(MIN, 0) = UNKNOWN; load(MAX, 0) = UNKNOWN");
        run("promise 30: OUTSIDE, i below 0")
            .due("add(5) = 1; row(0, 1) = 1; load(0, -1) = OUTSIDE; load(0, MIN) = OUTSIDE; sum(0) = 1; asked() = 0; load(0, 0) = 1")
            .due("sum(0) = 1; asked() = 5");
        run("promise 30: NULL")
            .due("add(5) = 1; load(0, 0) = NULL; load(1, 0) = NULL; load(2, MAX) = NULL; row(0, 1) = 1; load(0, 0) = 1; drop(0) = 1")
            .due("load(0, 0) = NULL");
        run("promise 30: UNKNOWN ahead of OUTSIDE ahead of NULL")
            .due("load(3, -1) = UNKNOWN; load(-1, -1) = UNKNOWN; load(0, -1) = OUTSIDE; load(0, 0) = NULL");
        run("promise 30: asked() is as before")
            .due("add(5) = 1; row(0, 1) = 1; work(0, 0, 0, 3) = 1; load(0, 0) = 1; asked() = 3; sum(0) = 1; asked() = 5");
    }

    private static void loadFewer() {
        run("promise 30: as many as a ROW has places: 0").told("fill 1 1 9").due("row(0, 0) = 0; load(0, 0) = 0; load(0, 99) = 0");
        run("promise 30: as many as a ROW has places: 12").told("fill 1 1 96")
            .due("row(0, 12) = 12; load(0, 0) = 12; sum(0) = 12; asked() = 78; load(0, 84) = 12; sum(0) = 12; asked() = 1086");
        run("promise 30: there may be fewer; the other places stay").told("fill 10 10 9")
            .due("row(0, 3) = 3; load(0, 6) = 3; sum(0) = 3; asked() = 240; load(0, 0) = 3; sum(0) = 3; asked() = 60")
            .due("load(0, 7) = 2; sum(0) = 3; asked() = 200; work(0, 2, 0, 0) = 1; asked() = 30; load(0, 8) = 1; work(0, 0, 0, 0) = 1")
            .due("asked() = 90; work(0, 1, 0, 0) = 1; asked() = 90")
            .due("load(0, 9) = 0; load(0, 10) = 0; load(0, MAX) = 0; sum(0) = 3; asked() = 210");
        run("promise 30: there are no KEYS")
            .due("row(1, 2) = 2; set(1, 0, 7) = 1; load(1, 0) = 0; load(1, MAX) = 0; sum(1) = 2; asked() = 7");
        run("promise 30: the last of 96").told("plan 16 2;fill 65440 1 96")
            .due("row(2, 2) = 2; load(2, 95) = 1; sum(2) = 2; asked() = 65535; load(2, 94) = 2; sum(2) = 2; asked() = 131069")
            .due("load(2, 96) = 0");
    }

    private static void drop() {
        run("promise 31: UNKNOWN")
            .due("row(0, 1) = 1; row(2, 1) = 1; drop(-1) = UNKNOWN; drop(3) = UNKNOWN; drop(MIN) = UNKNOWN; drop(MAX) = UNKNOWN")
            .due("count(7) = 2");
        run("promise 31: NULL").due("drop(0) = NULL; row(0, 2) = 2; drop(0) = 2; drop(0) = NULL; count(7) = 0");
        run("promise 31: how many places it had: 0 to 12")
            .due("row(0, 0) = 0; row(1, 1) = 1; row(2, 12) = 12; drop(0) = 0; drop(1) = 1; drop(2) = 12; drop(0) = NULL");
        run("promise 31: missing from now on")
            .due("row(1, 2) = 2; set(1, 1, 4) = 1; drop(1) = 2; set(1, 0, 1) = NULL; work(1, 0, 0, 1) = NULL; bits(1, 0) = NULL")
            .due("sum(1) = NULL; load(1, 0) = NULL")
            .due("row(1, 2) = 2; sum(1) = 2; asked() = 0");
        run("promise 31: the other ROWS and asked() stay")
            .due("row(0, 1) = 1; row(1, 1) = 1; row(2, 1) = 1; work(0, 0, 0, 3) = 1; work(2, 0, 0, 4) = 1; drop(1) = 1; asked() = 4")
            .due("sum(0) = 1; asked() = 3; sum(2) = 1; asked() = 4");
    }

    private static void askedBefore() {
        run("promise 32: 0 before")
            .due("asked() = 0; row(0, 3) = 3; set(0, 0, 5) = 1; add(9) = 1; load(0, 0) = 1; asked() = 0; drop(0) = 3; asked() = 0");
        run("promise 32: refused ones before: 0")
            .due("work(0, 0, 0, 1) = NULL; bits(0, 0) = NULL; sum(0) = NULL; work(3, 0, 0, 1) = UNKNOWN; asked() = 0");
        run("promise 32: the latest: work(), bits(), sum()")
            .due("row(0, 2) = 2; work(0, 0, 0, 7) = 1; asked() = 7; asked() = 7; bits(0, 0) = 1; asked() = 3; work(0, 1, 1, 2) = 1")
            .due("asked() = -2; sum(0) = 2; asked() = 5; bits(0, 1) = 1; asked() = 63");
        run("promise 32: 0 is told too")
            .due("row(0, 1) = 1; work(0, 0, 0, 7) = 1; work(0, 0, 2, 0) = 1; asked() = 0; work(0, 0, 0, 7) = 1; row(1, 0) = 0")
            .due("sum(1) = 0; asked() = 0");
    }

    private static void askedBehindRefused() {
        String[] refused = {"work(-1, 0, 0, 1) = UNKNOWN", "work(3, 0, 0, 1) = UNKNOWN", "work(0, 0, 3, 1) = OUTSIDE", "work(0, 0, -1, 1) = OUTSIDE",
            "work(1, 0, 0, 1) = NULL", "work(0, 1, 0, 1) = INDEX", "work(0, -1, 0, 1) = INDEX", "work(2, 0, 0, 1) = OVER", "work(2, 0, 1, -1) = OVER",
            "work(2, 0, 2, 2) = OVER", "bits(-1, 0) = UNKNOWN", "bits(3, 0) = UNKNOWN", "bits(1, 0) = NULL", "bits(0, 1) = INDEX", "bits(0, -1) = INDEX",
            "sum(-1) = UNKNOWN", "sum(3) = UNKNOWN", "sum(1) = NULL", "sum(2) = OVER"};
        for (String call : refused) {
            run("promise 32: that was not refused: " + call)
                .due("row(0, 1) = 1; row(2, 2) = 2; set(2, 0, MIN) = 1; work(2, 0, 2, MIN) = 1; work(2, 0, 2, -2) = 1")
                .due("work(2, 0, 0, 1) = 1; work(2, 0, 2, -1) = 1; set(2, 1, 1) = 1; work(0, 0, 0, 42) = 1; asked() = 42").due(call)
                .due("asked() = 42")
                .due("sum(0) = 1; asked() = 42; work(2, 0, 0, 0) = 1; asked() = MOST");
        }
        run("promise 32: texts, keys, undo(), back() leave it")
            .due("row(0, 1) = 1; work(0, 0, 0, 42) = 1; add(1) = 1; keep(0) = 1; undo() = 0; back(0) = 1; row(0, 2) = 2; drop(0) = 2")
            .told("plan 9 3;add 7")
            .due("asked() = 42; sum(0) = NULL; asked() = 42");
    }
}
