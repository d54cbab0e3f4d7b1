import java.util.ArrayList;
import java.util.List;

/**
 * "Refused, and nothing changes": each refusal of each promise, in several states, with the answer
 * that is due; then an object that was refused shows all that one shows that was never asked.
 * Likewise calls that only find, show or foretell change nothing.
 */
public final class RefusalTest {
    private static final Due due = new Due("RefusalTest");
    private static final String[] PROMISES = {"PrefixIndex", "write", "erase", "fault", "read", "add", "remove", "undo", "keep", "back", "has",
        "near", "rank", "ranked", "search", "bucket", "level", "marks", "under", "sweep", "flood", "dearest", "mean", "spread", "row", "set",
        "work", "bits", "sum", "load", "drop", "asked", "count"};
    private static final int VIEWS = 8;

    /** A state that runs of calls lead to, and what is refused in it beside what always is. */
    private enum State {
        NEW(8, 1, "read() = NOT; remove(0) = NOT; remove(255) = NOT; undo() = NOT; back(0) = NOT; back(1) = NOT; ranked(0) = UNKNOWN"
            + "; mean(0) = NOT; mean(1) = NOT; mean(2) = OUTSIDE; dearest(2) = OUTSIDE; set(0, 0, 1) = NULL; set(2, -1, 1) = NULL"
            + "; work(0, 0, 0, 1) = NULL; work(1, 99, 2, 1) = NULL; work(2, 0, 3, 1) = OUTSIDE; bits(0, 0) = NULL; bits(1, -1) = NULL"
            + "; sum(0) = NULL; sum(1) = NULL; sum(2) = NULL; load(0, 0) = NULL; load(1, -1) = OUTSIDE; drop(0) = NULL; drop(1) = NULL; drop(2) = NULL"),
        RICH(6, 4, "add(1) = NOT; add(57) = NOT; remove(2) = NOT; remove(63) = NOT; ranked(20) = UNKNOWN; set(2, 0, 1) = NULL; set(0, 12, 1) = INDEX"
            + "; set(1, 0, 1) = INDEX; work(0, 0, 0, 1) = OVER; work(0, 0, 1, -1) = OVER; work(0, 0, 2, 2) = OVER; work(0, 0, 2, MIN) = OVER"
            + "; work(0, 12, 0, 1) = INDEX; work(1, 0, 0, 1) = INDEX; work(0, -1, 2, 2) = INDEX; work(2, 0, 0, 1) = NULL; work(0, 0, 3, 1) = OUTSIDE"
            + "; bits(0, 12) = INDEX; bits(1, 0) = INDEX; bits(0, -1) = INDEX; bits(2, 0) = NULL; sum(0) = OVER; sum(2) = NULL; load(0, -1) = OUTSIDE"
            + "; load(2, 0) = NULL; drop(2) = NULL; row(0, 13) = OUTSIDE; row(0, -1) = SIZE; row(1, -1) = SIZE; row(2, 99) = OUTSIDE"),
        FULL(8, 23, "write(32) = FULL; write(0) = FULL; write(255) = FULL; read() = NOT; add(1) = FULL; add(191) = FULL; add(0) = NOT; add(190) = NOT"
            + "; remove(1) = NOT; ranked(96) = UNKNOWN; back(1) = NOT; work(0, 0, 0, -1) = OVER; work(0, 0, 1, 1) = OVER; work(0, 0, 2, -1) = OVER"
            + "; work(0, 1, 0, 1) = INDEX; set(0, 1, 1) = INDEX; sum(1) = NULL"),
        BEHIND_A_TEXT(16, 2, "undo() = NOT; back(0) = NOT; back(1) = NOT; read() = NOT; add(65535) = NOT; remove(8) = NOT; ranked(13) = UNKNOWN"
            + "; sum(0) = NULL; row(0, -1) = SIZE; row(1, 13) = OUTSIDE; set(1, 3, 7) = INDEX");

        private final int bits;
        private final int buckets;
        private final String refused;

        State(int bits, int buckets, String refused) {
            this.bits = bits;
            this.buckets = buckets;
            this.refused = refused;
        }

        private Run reach(Run run) {
            switch (this) {
                case RICH:
                    return rich(run);
                case FULL:
                    return full(run);
                case BEHIND_A_TEXT:
                    return run.due("add(3) = 1; keep(0) = 1; keep(1) = 1; row(1, 3) = 3; work(1, 2, 0, 21) = 1")
                        .told("plan 16 3;fill 65531 1 5;fill 0 1 8").type("add 65536");
                default:
                    return run;
            }
        }
    }

    public static void main(String[] args) {
        for (State state : State.values()) {
            List<List<Long>> before = new ArrayList<>();
            for (int view = 0; view < VIEWS; view++) {
                before.add(seen(state.reach(new Run(due, "promise 1: the state " + state)), view, state));
            }
            due.is("buckets of " + state, state.reach(new Run(due, "promise 33: the state " + state)).answer("count(3)"), state.buckets);
            for (String row : refusals(state)) {
                unchanged(state, row, before);
            }
            for (String call : questions(state)) {
                unchanged(state, call, before);
            }
        }
        due.end();
    }

    /** Twenty keys in four buckets, eight changes to undo, both indexes kept, a row that is over, a text without a fault. */
    private static Run rich(Run run) {
        run.told("plan 6 2;fill 0 3 20").due("keep(0) = 20; remove(0) = 19; remove(3) = 18; remove(6) = 17; count(6) = 1; add(1) = 18; add(4) = 19")
            .due("keep(1) = 19; add(7) = 20; add(10) = 21; add(13) = 22; add(16) = 23; add(19) = 24; remove(19) = 23; remove(16) = 22; remove(13) = 21")
            .due("remove(10) = 20; count(8) = 8; row(0, 12) = 12; load(0, 3) = 12; set(0, 0, MIN) = 1; work(0, 0, 2, MIN) = 1; work(0, 0, 2, -2) = 1")
            .due("work(0, 0, 0, 1) = 1; work(0, 0, 2, -1) = 1; row(1, 0) = 0; work(0, 11, 1, 999) = 1");
        return run.type("add 5;del 1");
    }

    /** Ninety-six keys, two hundred letters that end too soon. */
    private static Run full(Run run) {
        return run.told("fill 0 2 96").due("keep(0) = 96; remove(8) = 95; add(8) = 96; row(0, 1) = 1; set(0, 0, MIN) = 1; work(0, 0, 2, MIN) = 1")
            .due("work(0, 0, 2, -2) = 1; row(2, 3) = 3; load(2, 50) = 3; bits(2, 1) = 1").type(" ".repeat(188)).type("del 4;add 8;");
    }

    private static List<String> refusals(State state) {
        int over = 1 << state.bits;
        int top = over - 1;
        List<String> rows = new ArrayList<>();
        for (String x : new String[] {"-1", "" + over, "MIN", "MAX"}) {
            for (String call : new String[] {"add(X)", "remove(X)", "has(X)", "near(X, 0)", "near(X, 1)", "near(X, 2)", "rank(X)", "search(X, 0)",
                "search(X, 5)", "sweep(X, " + top + ", 0)", "sweep(0, X, 1)", "flood(X, 1, 1, 2)", "marks(" + state.bits + ", X)",
                "under(" + state.bits + ", X, 0)"}) {
                rows.add(call.replace("X", x) + " = OUTSIDE");
            }
        }
        for (String l : new String[] {"-1", "" + (state.bits + 1), "MIN", "MAX"}) {
            for (String call : new String[] {"level(X)", "marks(X, 0)", "marks(X, -1)", "under(X, 0, 0)", "under(X, -1, 2)", "spread(X, 0)", "spread(X, 2)"}) {
                rows.add(call.replace("X", l) + " = UNKNOWN");
            }
        }
        for (String n : new String[] {"-1", "3", "MIN", "MAX"}) {
            for (String call : new String[] {"row(X, 2)", "row(X, 13)", "row(X, -1)", "set(X, 0, 1)", "set(X, -1, 1)", "work(X, 0, 0, 1)", "work(X, -1, 3, 1)",
                "bits(X, 0)", "bits(X, -1)", "sum(X)", "load(X, 0)", "load(X, -1)", "drop(X)"}) {
                rows.add(call.replace("X", n) + " = UNKNOWN");
            }
        }
        for (String k : new String[] {"-1", "2", "MIN", "MAX"}) {
            rows.add("keep(" + k + ") = UNKNOWN");
            rows.add("back(" + k + ") = UNKNOWN");
        }
        for (String row : ("write(-1) = OUTSIDE; write(256) = OUTSIDE; write(MIN) = OUTSIDE; write(MAX) = OUTSIDE; near(0, -1) = OUTSIDE; near(0, 2) = OUTSIDE"
            + "; ranked(-1) = UNKNOWN; ranked(MIN) = UNKNOWN; ranked(MAX) = UNKNOWN; search(0, -1) = OUTSIDE; search(0, 5) = OUTSIDE; bucket(-1, 0) = UNKNOWN"
            + "; bucket(" + state.buckets + ", 0) = UNKNOWN; bucket(" + state.buckets + ", 4) = UNKNOWN; bucket(MAX, 1) = UNKNOWN; bucket(0, -1) = OUTSIDE; bucket(0, 4) = OUTSIDE"
            + "; under(0, 0, -1) = OUTSIDE; under(0, 0, 2) = OUTSIDE; marks(0, 1) = OUTSIDE; sweep(1, 0, 0) = OUTSIDE; sweep(0, 1, -1) = OUTSIDE; sweep(0, 1, 3) = OUTSIDE"
            + "; flood(0, 0, 1, 0) = OUTSIDE; flood(0, 1000, 1, 0) = OUTSIDE; flood(0, 1, 0, 0) = OUTSIDE; flood(0, 1, 97, 0) = OUTSIDE; flood(0, 1, 1, -1) = OUTSIDE"
            + "; flood(0, 1, 1, 3) = OUTSIDE; dearest(-1) = OUTSIDE; dearest(2) = OUTSIDE; mean(-1) = OUTSIDE; mean(2) = OUTSIDE; spread(0, -1) = OUTSIDE"
            + "; spread(" + state.bits + ", 2) = OUTSIDE; count(-1) = OUTSIDE; count(10) = OUTSIDE; count(MIN) = OUTSIDE; count(MAX) = OUTSIDE; " + state.refused).split("; ")) {
            rows.add(row);
        }
        return rows;
    }

    /** Calls that are answered and yet change nothing. */
    private static List<String> questions(State state) {
        int top = (1 << state.bits) - 1;
        return List.of("fault()", "has(0)", "has(" + top + ")", "near(9, 0)", "near(9, 1)", "rank(9)", "rank(" + top + ")", "search(9, 0)", "search(" + top + ", 4)",
            "bucket(0, 2)", "level(2)", "marks(1, 1)", "under(1, 1, 0)", "under(1, 0, 1)", "sweep(0, " + top + ", 0)", "sweep(0, " + top + ", 1)",
            "sweep(4, 12, 2)", "flood(0, 1, 96, 0)", "flood(1, 3, 96, 1)", "flood(1, 7, 96, 2)", "dearest(0)", "dearest(1)", "mean(0)", "mean(1)",
            "spread(0, 0)", "spread(" + state.bits + ", 1)", "asked()", "count(4)");
    }

    /** A row "call = refusal", or a call alone; in either case nothing may have changed behind it. */
    private static void unchanged(State state, String row, List<List<Long>> before) {
        String call = row.split(" = ")[0];
        String part = "promise " + promise(call) + ": nothing changes, " + state + ", " + row;
        for (int view = 0; view < VIEWS; view++) {
            Run run = state.reach(new Run(due, part));
            if (row.contains(" = ")) {
                run.due(row);
            } else {
                run.answer(call);
            }
            List<Long> behind = seen(run, view, state);
            due.holds("view " + view + " was " + before.get(view) + " and is " + behind, behind.equals(before.get(view)));
        }
    }

    private static int promise(String call) {
        String name = call.substring(0, call.indexOf('('));
        for (int i = 0; i < PROMISES.length; i++) {
            if (PROMISES[i].equals(name)) {
                return i + 1;
            }
        }
        throw new IllegalArgumentException("no promise of " + name);
    }

    private static List<Long> seen(Run run, int view, State state) {
        List<Long> seen = new ArrayList<>();
        switch (view) {
            case 0:
                seen.add(run.answer("asked()"));
                seen.add(run.answer("fault()"));
                each(seen, run, "count(%d)", 10);
                each(seen, run, "level(%d)", 17);
                break;
            case 1:
                each(seen, run, "ranked(%d)", 97);
                break;
            case 2:
                buckets(seen, run);
                break;
            case 3:
                rows(seen, run);
                break;
            case 4:
                undone(seen, run);
                break;
            case 5:
                wentBack(seen, run, 0);
                wentBack(seen, run, 1);
                break;
            case 6:
                seen.add(run.answer("read()"));
                each(seen, run, "count(%d)", 10);
                each(seen, run, "ranked(%d)", 30);
                seen.add(run.answer("erase()"));
                break;
            default:
                // More letters, then what the text tells with them.
                run.type("7;add 9");
                seen.add(run.answer("fault()"));
                seen.add(run.answer("count(9)"));
                seen.add(run.answer("read()"));
                each(seen, run, "ranked(%d)", 30);
                seen.add(run.answer("back(0)"));
                seen.add(run.answer("undo()"));
                break;
        }
        return seen;
    }

    private static void each(List<Long> seen, Run run, String call, int many) {
        for (int i = 0; i < many; i++) {
            seen.add(run.answer(call.formatted(i)));
        }
    }

    private static void buckets(List<Long> seen, Run run) {
        int many = (int) run.answer("count(3)");
        for (int what = 0; what < 4; what++) {
            each(seen, run, "bucket(%d, " + what + ")", many);
        }
    }

    private static void rows(List<Long> seen, Run run) {
        for (int row = 0; row < 3; row++) {
            for (int i = 0; i < 12; i++) {
                seen.add(run.answer("work(" + row + ", " + i + ", 0, 0)"));
                seen.add(run.answer("asked()"));
            }
            seen.add(run.answer("sum(" + row + ")"));
            seen.add(run.answer("asked()"));
            seen.add(run.answer("drop(" + row + ")"));
        }
    }

    private static void undone(List<Long> seen, Run run) {
        for (int i = 0; i < 9; i++) {
            seen.add(run.answer("undo()"));
            each(seen, run, "count(%d)", 7);
            each(seen, run, "bucket(%d, 1)", 3);
            each(seen, run, "bucket(%d, 0)", 3);
        }
    }

    private static void wentBack(List<Long> seen, Run run, int k) {
        seen.add(run.answer("back(" + k + ")"));
        each(seen, run, "count(%d)", 9);
        each(seen, run, "ranked(%d)", 24);
        each(seen, run, "bucket(%d, 1)", 8);
        each(seen, run, "bucket(%d, 0)", 8);
    }
}
