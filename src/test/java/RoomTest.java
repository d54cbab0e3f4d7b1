import com.sun.management.ThreadMXBean;
import java.lang.management.ManagementFactory;

/**
 * All calls of a run live in one room, so calls must make nothing: whatever is
 * needed is made with the object. Also, no call may throw, whatever it is given;
 * so an object is called far more often here than its answers are promised for.
 */
public final class RoomTest {
    private static final int[] ODD = {0, 1, -1, 2, 3, 4, 5, 7, 8, 9, 12, 13, 15, 16, 17, 31, 32, 33, 63, 64, 96, 97, 200, 255, 256,
        999, 1000, 65535, 65536, Integer.MAX_VALUE, Integer.MAX_VALUE - 1, Integer.MIN_VALUE, Integer.MIN_VALUE + 1};
    private static final String[] TEXTS = {"", "plan 16 2;fill 0 7 96", "plan 4 5;fill 0 1 16", "fill 0 1 96;del 3;del 4", "plan 9 2;"};

    public static void main(String[] args) {
        Due due = new Due("RoomTest");
        ThreadMXBean threads = (ThreadMXBean) ManagementFactory.getThreadMXBean();
        long thread = Thread.currentThread().getId();
        long before = threads.getThreadAllocatedBytes(thread);
        long made = threads.getThreadAllocatedBytes(thread) - before;
        for (String text : TEXTS) {
            due.part("'" + text + "'");
            PrefixIndex x = new PrefixIndex();
            char[] letters = text.toCharArray();
            every(x);
            before = threads.getThreadAllocatedBytes(thread);
            for (char letter : letters) {
                x.write(letter);
            }
            x.read();
            every(x);
            every(x);
            made = threads.getThreadAllocatedBytes(thread) - before;
            // A little is the measuring's own.
            due.holds("calls make nothing, not " + made + " bytes", made < 4096);
        }
        due.part("an object");
        PrefixIndex[] many = new PrefixIndex[100];
        before = threads.getThreadAllocatedBytes(thread);
        for (int i = 0; i < many.length; i++) {
            many[i] = new PrefixIndex();
        }
        made = (threads.getThreadAllocatedBytes(thread) - before) / many.length;
        due.holds("an object has " + made + " bytes, 16000 at most", made < 16000);
        due.end();
    }

    /** Every call with all that is odd, in every place at once or in pairs. */
    private static void every(PrefixIndex x) {
        for (int a : ODD) {
            single(x, a);
            for (int b : ODD) {
                pair(x, a, b);
                for (int c : ODD) {
                    x.under(a, b, c);
                    x.set(a, b, c);
                    x.work(a, b, c, a);
                    x.work(a, b, 2, c);
                    x.sweep(a, b, c % 3);
                    x.flood(a, b, c, b % 3);
                }
            }
            x.undo();
        }
        x.erase();
        x.fault();
        x.read();
        x.asked();
    }

    private static void single(PrefixIndex x, int a) {
        x.write(a);
        x.fault();
        x.add(a);
        x.has(a);
        x.rank(a);
        x.ranked(a);
        x.level(a);
        x.dearest(a);
        x.mean(a);
        x.sum(a);
        x.count(a);
        x.keep(a);
        x.back(a);
        x.remove(a);
        x.drop(a);
    }

    private static void pair(PrefixIndex x, int a, int b) {
        x.near(a, b);
        x.search(a, b);
        x.bucket(a, b);
        x.marks(a, b);
        x.spread(a, b);
        x.row(a, b);
        x.bits(a, b);
        x.load(a, b);
    }
}
