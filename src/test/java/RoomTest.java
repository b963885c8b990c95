import com.sun.management.ThreadMXBean;
import java.lang.management.ManagementFactory;

/** All calls of one run live in one room: an object is small, and no call makes anything. */
public final class RoomTest {
    private static final long MOST_BYTES_OF_ONE = 100_000;
    private static final long MOST_BYTES_OF_CALLS = 20_000;

    public static void main(String[] args) {
        Check c = new Check();
        ThreadMXBean threads = (ThreadMXBean) ManagementFactory.getThreadMXBean();
        long id = Thread.currentThread().getId();
        calls(prepared());
        LastName x = prepared();
        long before = threads.getThreadAllocatedBytes(id);
        long sum = calls(x);
        long behind = threads.getThreadAllocatedBytes(id);
        c.due("calls answered " + sum + ", they made bytes: " + (behind - before), behind - before < MOST_BYTES_OF_CALLS, true);
        before = threads.getThreadAllocatedBytes(id);
        LastName y = new LastName();
        behind = threads.getThreadAllocatedBytes(id);
        c.due("an object has bytes: " + (behind - before), behind - before < MOST_BYTES_OF_ONE, true);
        c.due("and nobody", y.about(0), 0);
        c.close("RoomTest");
    }

    private static LastName prepared() {
        LastName x = new LastName();
        for (int i = 0; i < 8; i++) {
            x.person(i < 6);
        }
        x.gate(false);
        x.gate(true);
        x.gate(false);
        x.by(Check.read(x, "take name-place*own;fee size+2;bars who=7 and hour>20 or not in<=1;go 0 by 1;go 1 by 1;"));
        x.gone(0);
        x.deed(2, 7);
        x.row(2, 1);
        x.row(0, 1);
        x.row(1, 1);
        x.row(6, 0);
        x.line(false, 3, 0);
        x.line(true, -1, 0);
        x.line(true, 3, 0);
        return x;
    }

    /** Some hundred calls, the dear ones among them. */
    private static long calls(LastName x) {
        long sum = 0;
        for (int i = 0; i < 8; i++) {
            sum += x.fewest(2, 0, 0, 255, -1) + x.fewest(1, 2, 3, 255, i) + x.third(2, 3) + x.fewest(0, 0, i, 254, -1);
            sum += x.left(0, i, i) + x.thief(i, 4) + x.chance(i, i, 0) + x.chance(i, -1, 1) + x.judge() + x.then(i);
            sum += x.ways() + x.may(i) + x.ask(0) + x.ask(1) + x.image() + x.days(20) + x.back();
            sum += x.feed(1718969632, 1718969632, 0, 0, 0) + x.text() + x.fault(0) + x.about(i) + x.of(i, i) + x.gone(0);
            sum += x.feed(1718969632, 825950060, 0, 0, 0) + x.end(6) + x.text() + x.deed(i, 1) + x.owes(i) + x.called(i);
            sum += x.heap(0, i) + x.line(true, i, 0) + x.row(i, 0) + (x.by(0) ? 1 : 0) + (x.seed(i) ? 1 : 0) + (x.hour(i) ? 1 : 0);
        }
        return sum;
    }
}
