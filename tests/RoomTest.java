import java.lang.management.ManagementFactory;

/** That rows are made when an object is made and used again: no call takes room of its own. */
public final class RoomTest {
    private static final int CALLS = 512;
    /** What the machine itself may take while it measures. */
    private static final long SLACK = 16_384;

    public static void main(String[] args) {
        com.sun.management.ThreadMXBean bean = (com.sun.management.ThreadMXBean) ManagementFactory.getThreadMXBean();
        long id = Thread.currentThread().getId();
        Due.is("the machine counts room", bean.isThreadAllocatedMemorySupported());
        bean.setThreadAllocatedMemoryEnabled(true);
        dearCalls(new WhoBuiltSails());
        long before = bean.getThreadAllocatedBytes(id);
        WhoBuiltSails x = new WhoBuiltSails();
        long made = bean.getThreadAllocatedBytes(id) - before;
        Due.is("an object takes " + made + " bytes", made > 0 && made < 40_000);
        before = bean.getThreadAllocatedBytes(id);
        dearCalls(x);
        long taken = bean.getThreadAllocatedBytes(id) - before;
        Due.is("dear calls took " + taken + " bytes", taken <= SLACK);
        Due.ends();
    }

    private static int dearCalls(WhoBuiltSails x) {
        int sum = 0;
        for (int i = 0; i < 4; i++) {
            sum += x.wright(i, i, 20 + i);
        }
        for (int i = 0; i < 5; i++) {
            sum += x.builds(i % 4, i);
        }
        sum += x.film(0, 20);
        for (int i = 0; i < CALLS / 8; i++) {
            sum += x.yard(20, i % 2) + x.stands(40) + x.go(40, 0) + x.tells(0, 1, i % 9) + x.down()
                + (int) x.chance(i, 20, 0) + x.drawn(i, 40) + x.film(1, 20);
            sum += x.feed('(') + x.text() + x.image() + x.back() + x.sheet(2, 1, 40) + x.gang(2, 1, 0, 5);
        }
        return sum;
    }
}
