import java.lang.management.ManagementFactory;

/** The room: an object is small, and its dearest calls make nothing, 512 of them. */
public final class RoomTest {
    private static final com.sun.management.ThreadMXBean BEAN =
        (com.sun.management.ThreadMXBean) ManagementFactory.getThreadMXBean();

    public static void main(String[] args) {
        int warm = dearest(full());
        long before = made();
        AwakeByHalves x = full();
        long behindNew = made();
        int sum = dearest(x);
        long behindCalls = made();
        Check.due("the same calls give the same answers", sum, warm);
        Check.holds("a new object takes " + (behindNew - before) + " bytes", behindNew - before < 40000);
        Check.holds("the calls take " + (behindCalls - behindNew) + " bytes", behindCalls - behindNew < 20000);
        Check.end("RoomTest");
    }

    private static long made() {
        return BEAN.getThreadAllocatedBytes(Thread.currentThread().getId());
    }

    /** Ten acts that can all be done nearly always, and eight rules that look four days ahead. */
    private static AwakeByHalves full() {
        AwakeByHalves x = new AwakeByHalves();
        for (int a = 0; a < 10; a++) {
            x.act(a < 4 ? 0 : 3, a % 8, a % 4, 1 + a % 9, 0, 0);
        }
        for (int what = 0; what < 12; what++) {
            x.likes(0, what, what < 8 ? 13 * what - 40 : what - 9);
            x.likes(1, what, what < 8 ? 50 - 17 * what : 11 - what);
        }
        for (int s = 0; s < 8; s++) {
            x.rule(s, 3, 4 * s + 3);
        }
        return x;
    }

    private static int dearest(AwakeByHalves x) {
        int sum = 0;
        for (int i = 0; i < 40; i++) {
            sum = 31 * sum + x.head(i % 8, 60);
            sum = 31 * sum + x.run(0, 1, 60, i % 5);
            sum = 31 * sum + x.days(0, 1, 20);
            sum = 31 * sum + x.against(3, 4);
            sum = 31 * sum + x.harm(4);
            sum = 31 * sum + x.which(4);
            sum = 31 * sum + x.up(3);
            sum = 31 * sum + x.work(255, false);
            sum = 31 * sum + x.reach(4);
            sum = 31 * sum + x.pact(0, 1, 4);
            sum = 31 * sum + x.say(4, 0);
            sum = 31 * sum + x.leap();
        }
        return sum;
    }
}
