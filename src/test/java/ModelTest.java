import java.util.ArrayList;
import java.util.List;
import java.util.Random;

/** Long random runs, always the same ones, of the class against the plain model. */
public final class ModelTest {
    private static final int RUNS = 4000;
    /** What later calls of an object answer is free. */
    private static final int CALLS = 512;
    private static final int[] ODD = {-1, 0, 1, 2, 3, 5, 12, 13, 16, 17, 31, 32, 255, 256, 65535, 65536, 1 << 20,
        Integer.MAX_VALUE, Integer.MIN_VALUE, Integer.MIN_VALUE + 1, -2, -13};

    private final Random random;
    private final Due due;
    private final PrefixIndex real = new PrefixIndex();
    private final Model model = new Model();
    private final List<String> calls = new ArrayList<>();
    private int made = 0;
    private int spreads = 0;

    private ModelTest(int run, Due due) {
        this.random = new Random(run);
        this.due = due;
        due.part("run " + run);
    }

    public static void main(String[] args) {
        Due due = new Due("ModelTest");
        for (int run = 0; run < RUNS && !due.anyWrong(); run++) {
            new ModelTest(run, due).play();
        }
        due.end();
    }

    private void play() {
        // Some runs stay as at first, the others start with a plan and keys.
        if (random.nextInt(4) != 0) {
            tell("plan " + (4 + random.nextInt(13)) + " " + (2 + random.nextInt(4)) + ";" + clause());
        }
        int habit = random.nextInt(4);
        // Some runs go on to the last call, the others leave calls for comparing all.
        int most = random.nextInt(2) == 0 ? CALLS : 100 + random.nextInt(150);
        while (made < most && left(2) && !due.anyWrong()) {
            step(habit);
        }
        compareAll();
        if (due.anyWrong()) {
            System.out.println("the run: " + calls);
        }
    }

    private boolean left(int more) {
        return made + more <= CALLS;
    }

    private void is(String call, long got, long want) {
        made++;
        calls.add(call);
        due.is(call, got, want);
    }

    private int top() {
        return model.state.top();
    }

    private int odd() {
        return ODD[random.nextInt(ODD.length)];
    }

    private int upTo(int most) {
        return random.nextInt(25) == 0 ? odd() : random.nextInt(most + 1);
    }

    /** A number near a key or a mark, or anywhere. */
    private int number() {
        int kind = random.nextInt(20);
        if (kind == 0) {
            return odd();
        }
        if (kind == 1) {
            return top() + random.nextInt(3) - 1;
        }
        List<Integer> keys = new ArrayList<>(model.state.keys());
        if (kind < 10 && !keys.isEmpty()) {
            return keys.get(random.nextInt(keys.size())) + random.nextInt(3) - 1;
        }
        if (kind < 13) {
            return model.state.buckets.get(random.nextInt(model.state.buckets.size())).mark + random.nextInt(3) - 1;
        }
        return random.nextInt(top() + 1);
    }

    private int key() {
        List<Integer> keys = new ArrayList<>(model.state.keys());
        return keys.isEmpty() || random.nextInt(12) == 0 ? number() : keys.get(random.nextInt(keys.size()));
    }

    private int beginning(int l) {
        if (random.nextInt(3) > 0 && l >= 0 && l <= model.state.bits) {
            int mark = model.state.buckets.get(random.nextInt(model.state.buckets.size())).mark;
            return (mark >> (model.state.bits - l)) + (random.nextInt(3) == 0 ? random.nextInt(3) - 1 : 0);
        }
        return l >= 0 && l <= 16 ? upTo((1 << l) - 1) : odd();
    }

    private void step(int habit) {
        int kind = random.nextInt(100);
        if (kind < 30) {
            boolean grow = random.nextInt(10) < (habit == 0 ? 8 : habit == 1 ? 2 : 5);
            if (grow) {
                int k = number();
                is("add(" + k + ")", real.add(k), model.add(k));
            } else {
                int k = key();
                is("remove(" + k + ")", real.remove(k), model.remove(k));
            }
        } else if (kind < 36) {
            past();
        } else if (kind < 52) {
            found();
        } else if (kind < 68) {
            stands();
        } else if (kind < 78) {
            foretold();
        } else if (kind < 94) {
            rows();
        } else if (kind < 98) {
            int what = upTo(10);
            is("count(" + what + ")", real.count(what), model.count(what));
        } else {
            tell(text());
        }
    }

    private void past() {
        int k = random.nextInt(20) == 0 ? odd() : random.nextInt(2);
        int kind = random.nextInt(6);
        if (kind < 3) {
            is("undo()", real.undo(), model.undo());
        } else if (kind < 5) {
            is("keep(" + k + ")", real.keep(k), model.keep(k));
        } else {
            is("back(" + k + ")", real.back(k), model.back(k));
        }
    }

    private void found() {
        int x = number();
        int what = upTo(5);
        switch (random.nextInt(6)) {
            case 0:
                is("has(" + x + ")", real.has(x), model.has(x));
                break;
            case 1:
                what = upTo(1);
                is("near(" + x + ", " + what + ")", real.near(x, what), model.near(x, what));
                break;
            case 2:
                is("rank(" + x + ")", real.rank(x), model.rank(x));
                break;
            case 3:
                x = upTo(97);
                is("ranked(" + x + ")", real.ranked(x), model.ranked(x));
                break;
            default:
                is("search(" + x + ", " + what + ")", real.search(x, what), model.search(x, what));
                break;
        }
    }

    private void stands() {
        int l = upTo(model.state.bits);
        int p = beginning(l);
        int end = upTo(1);
        int i = upTo(model.state.buckets.size());
        int what = upTo(4);
        switch (random.nextInt(4)) {
            case 0:
                is("bucket(" + i + ", " + what + ")", real.bucket(i, what), model.bucket(i, what));
                break;
            case 1:
                is("level(" + l + ")", real.level(l), model.level(l));
                break;
            case 2:
                is("marks(" + l + ", " + p + ")", real.marks(l, p), model.marks(l, p));
                break;
            default:
                is("under(" + l + ", " + p + ", " + end + ")", real.under(l, p, end), model.under(l, p, end));
                break;
        }
    }

    private void foretold() {
        int what = upTo(2);
        int a = number();
        switch (random.nextInt(5)) {
            case 0:
                int c = number();
                int from = random.nextInt(10) == 0 ? a : Math.min(a, c);
                int to = random.nextInt(10) == 0 ? c : Math.max(a, c);
                is("sweep(" + from + ", " + to + ", " + what + ")", real.sweep(from, to, what), model.sweep(from, to, what));
                break;
            case 1:
                int d = random.nextInt(8) == 0 ? odd() : 1 + random.nextInt(random.nextInt(2) == 0 ? 20 : 1000);
                int n = random.nextInt(8) == 0 ? odd() : 1 + random.nextInt(97);
                is("flood(" + a + ", " + d + ", " + n + ", " + what + ")", real.flood(a, d, n, what), model.flood(a, d, n, what));
                break;
            case 2:
                is("dearest(" + what + ")", real.dearest(what), model.dearest(what));
                break;
            case 3:
                is("mean(" + what + ")", real.mean(what), model.mean(what));
                break;
            default:
                // The model goes through all numbers, so with many bits not too often.
                if (model.state.bits <= 10 || spreads++ < 2) {
                    int l = upTo(model.state.bits);
                    is("spread(" + l + ", " + what + ")", real.spread(l, what), model.spread(l, what));
                }
                break;
        }
    }

    private int factor() {
        switch (random.nextInt(4)) {
            case 0:
                return odd();
            case 1:
                return random.nextInt(7) - 3;
            default:
                return random.nextInt();
        }
    }

    private void rows() {
        int row = random.nextInt(20) == 0 ? odd() : random.nextInt(3);
        int i = upTo(6);
        int v = factor();
        switch (random.nextInt(12)) {
            case 0:
                int n = random.nextInt(5) == 0 ? odd() : random.nextInt(7);
                is("row(" + row + ", " + n + ")", real.row(row, n), model.row(row, n));
                break;
            case 1:
                is("set(" + row + ", " + i + ", " + v + ")", real.set(row, i, v), model.set(row, i, v));
                break;
            case 2:
                is("bits(" + row + ", " + i + ")", real.bits(row, i), model.bits(row, i));
                break;
            case 3:
                is("sum(" + row + ")", real.sum(row), model.sum(row));
                break;
            case 4:
                int rank = random.nextInt(10) == 0 ? odd() : random.nextInt(model.state.keys().size() + 2);
                is("load(" + row + ", " + rank + ")", real.load(row, rank), model.load(row, rank));
                break;
            case 5:
                if (random.nextInt(4) == 0) {
                    is("drop(" + row + ")", real.drop(row), model.drop(row));
                }
                break;
            default:
                int way = upTo(2);
                is("work(" + row + ", " + i + ", " + way + ", " + v + ")", real.work(row, i, way, v), model.work(row, i, way, v));
                break;
        }
        is("asked()", real.asked(), model.asked());
    }

    private String number(int most) {
        int v = random.nextInt(30) == 0 ? most + 1 : random.nextInt(most + 1);
        String digits = Integer.toString(v);
        return random.nextInt(20) == 0 ? "0".repeat(random.nextInt(5)) + digits : digits;
    }

    private String clause() {
        switch (random.nextInt(8)) {
            case 0:
                return "plan " + number(16) + " " + number(5);
            case 1:
            case 2:
                return "add " + number(top());
            case 3:
            case 4:
                return "del " + Math.max(0, key());
            default:
                return "fill " + number(top()) + " " + number(random.nextBoolean() ? 999 : 9) + " " + number(96);
        }
    }

    private String text() {
        StringBuilder s = new StringBuilder(random.nextInt(6) == 0 ? "" : clause());
        int many = random.nextInt(5) == 0 ? random.nextInt(26) : random.nextInt(4);
        for (int i = 0; i < many; i++) {
            s.append(random.nextInt(5) == 0 ? " ; " : ";").append(clause());
        }
        if (random.nextInt(3) == 0 && s.length() > 0) {
            String signs = " ;;a1zq09-A\t{`/:";
            int at = random.nextInt(s.length());
            switch (random.nextInt(3)) {
                case 0:
                    s.setCharAt(at, signs.charAt(random.nextInt(signs.length())));
                    break;
                case 1:
                    s.insert(at, signs.charAt(random.nextInt(signs.length())));
                    break;
                default:
                    s.deleteCharAt(at);
                    break;
            }
        }
        return s.toString();
    }

    private void tell(String text) {
        if (!left(text.length() + 3)) {
            return;
        }
        if (random.nextInt(4) > 0) {
            is("erase()", real.erase(), model.erase());
        }
        for (int i = 0; i < text.length(); i++) {
            made++;
            due.is("write", real.write(text.charAt(i)), model.write(text.charAt(i)));
        }
        calls.add("'" + text + "'");
        is("fault()", real.fault(), model.fault());
        is("read()", real.read(), model.read());
    }

    /** As far as calls are left. */
    private void compareAll() {
        for (int what = 0; what < 10 && left(1); what++) {
            is("count(" + what + ") then", real.count(what), model.count(what));
        }
        for (int i = 0; i < model.state.buckets.size(); i++) {
            for (int what = 0; what < 4 && left(1); what++) {
                is("bucket(" + i + ", " + what + ") then", real.bucket(i, what), model.bucket(i, what));
            }
        }
        int rank = 0;
        for (int key : model.state.keys()) {
            if (left(1)) {
                is("ranked(" + rank + ") then", real.ranked(rank++), key);
            }
        }
        due.holds("the run has 512 calls at most, not " + made, made <= CALLS);
    }
}
