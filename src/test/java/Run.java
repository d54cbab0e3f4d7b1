import java.lang.reflect.Method;
import java.util.HashMap;
import java.util.Map;
import java.util.regex.Matcher;
import java.util.regex.Pattern;

/**
 * One run of calls on a new object, told in rows such as "add(5) = 1; add(5) = NOT".
 * KEYS, MARKS, SIZES and COUNTS stand for the calls that show all of them:
 * "KEYS = 1 5", "MARKS = 255" (of all buckets), "SIZES = 2" (their keys),
 * "COUNTS = 8 2" (count(0) on). MIN and MAX are the ends of int, LEAST and MOST those of long.
 */
final class Run {
    private static final int MOST_CALLS = 512;
    private static final Pattern CALL = Pattern.compile("(\\w+)\\((.*)\\)");
    private static final Map<String, Long> NAMES = Map.ofEntries(
        Map.entry("NONE", -1L), Map.entry("UNKNOWN", -2L), Map.entry("OUTSIDE", -3L), Map.entry("NOT", -4L),
        Map.entry("FULL", -5L), Map.entry("NULL", -11L), Map.entry("INDEX", -12L), Map.entry("SIZE", -13L),
        Map.entry("OVER", -14L), Map.entry("MIN", (long) Integer.MIN_VALUE), Map.entry("MAX", (long) Integer.MAX_VALUE),
        Map.entry("LEAST", Long.MIN_VALUE), Map.entry("MOST", Long.MAX_VALUE));
    private static final Map<String, Method> METHODS = methods();

    private final Due due;
    private final PrefixIndex index = new PrefixIndex();
    private int calls = 0;

    Run(Due due, String part) {
        this.due = due;
        due.part(part);
    }

    private static Map<String, Method> methods() {
        Map<String, Method> all = new HashMap<>();
        for (Method m : PrefixIndex.class.getDeclaredMethods()) {
            if (java.lang.reflect.Modifier.isPublic(m.getModifiers())) {
                all.put(m.getName(), m);
            }
        }
        return all;
    }

    /** The letters are written, and no more. */
    Run type(String letters) {
        for (int i = 0; i < letters.length(); i++) {
            answer("write(" + (int) letters.charAt(i) + ")");
        }
        return this;
    }

    /** The text is written and read; it must have no fault. */
    Run told(String text) {
        answer("erase()");
        type(text);
        due.holds("'" + text + "' is read", answer("read()") > 0);
        return this;
    }

    Run due(String rows, Object... numbers) {
        for (String row : rows.formatted(numbers).split(";")) {
            String[] sides = row.trim().split(" = ");
            if (sides.length != 2) {
                throw new IllegalArgumentException("no row: " + row);
            }
            check(sides[0].trim(), sides[1].trim());
        }
        return this;
    }

    private void check(String call, String want) {
        String[] all = want.split(" ");
        switch (call) {
            case "KEYS":
                due.is("keys", answer("count(2)"), all.length);
                checkEach("ranked(%d)", all);
                break;
            case "MARKS":
                due.is("buckets", answer("count(3)"), all.length);
                checkEach("bucket(%d, 1)", all);
                break;
            case "SIZES":
                due.is("buckets", answer("count(3)"), all.length);
                checkEach("bucket(%d, 0)", all);
                break;
            case "COUNTS":
                checkEach("count(%d)", all);
                break;
            default:
                due.is(call, answer(call), number(want));
                break;
        }
    }

    private void checkEach(String call, String[] want) {
        for (int i = 0; i < want.length; i++) {
            String one = call.formatted(i);
            due.is(one, answer(one), number(want[i]));
        }
    }

    /** What the call answers. */
    long answer(String call) {
        Matcher m = CALL.matcher(call);
        if (!m.matches() || !METHODS.containsKey(m.group(1))) {
            throw new IllegalArgumentException("no call: " + call);
        }
        String[] given = m.group(2).isBlank() ? new String[0] : m.group(2).split(",");
        Object[] arguments = new Object[given.length];
        for (int i = 0; i < given.length; i++) {
            arguments[i] = Math.toIntExact(number(given[i].trim()));
        }
        calls++;
        // What later calls answer is free, so a test that makes them would show nothing.
        if (calls > MOST_CALLS) {
            throw new IllegalStateException("more than " + MOST_CALLS + " calls of one object");
        }
        try {
            return ((Number) METHODS.get(m.group(1)).invoke(index, arguments)).longValue();
        } catch (ReflectiveOperationException e) {
            throw new IllegalStateException(call + " threw", e);
        }
    }

    private static long number(String told) {
        Long named = NAMES.get(told);
        return named != null ? named : Long.parseLong(told);
    }
}
