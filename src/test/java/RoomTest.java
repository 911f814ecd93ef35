import com.sun.management.ThreadMXBean;
import java.lang.management.ManagementFactory;

/** All calls of a run live in one room: a new object is small, and no call makes any. */
public final class RoomTest {
    private static final int CALLS = 512;
    private static final int MOST_BYTES_OF_AN_OBJECT = 20000;
    /** What the machine itself may make beside the calls; one object a call would be above it. */
    private static final int SLACK = 4000;

    public static void main(String[] args) {
        Checks checks = new Checks();
        checks.part("room");
        ThreadMXBean beans = (ThreadMXBean) ManagementFactory.getThreadMXBean();
        work(new ArcGuesser());
        beans.getCurrentThreadAllocatedBytes();

        long before = beans.getCurrentThreadAllocatedBytes();
        ArcGuesser x = new ArcGuesser();
        long made = beans.getCurrentThreadAllocatedBytes() - before;
        checks.holds("a new object takes few bytes: " + made, made <= MOST_BYTES_OF_AN_OBJECT);

        before = beans.getCurrentThreadAllocatedBytes();
        long sum = work(x);
        made = beans.getCurrentThreadAllocatedBytes() - before;
        checks.holds(CALLS + " calls make no objects: " + made, made <= SLACK);
        checks.holds("the calls answered", sum != 0);
        checks.finish();
    }

    /** Every kind of call, on the fullest graph. */
    private static long work(ArcGuesser x) {
        long sum = x.graph(12, 1);
        for (int a = 0; a < 12; a++) {
            for (int b = 0; b < 12; b += 2) {
                sum += x.arc(a, b, 12 * a + b);
            }
        }
        for (int i = 0; i < CALLS / 17; i++) {
            sum += x.split(i, 2, 1) + x.share() + x.sample(i) + x.learn(7 << i % 9, 3);
            sum += x.ranked(i) + x.place(0, i % 12) + x.among(i) + x.count(i % 5) + x.top();
            sum += x.weigh(i % 11, i) + x.weight(i % 11) + x.score(0, 1, i % 12) + x.bottom();
            sum += x.paths(1, 2, 1) + x.group(i % 12, i % 4) + x.hide(1, 0, true) + x.since(i);
        }
        return sum;
    }
}
