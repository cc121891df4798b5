import java.lang.management.ManagementFactory;

/** All calls of a run live in one room: no call makes anything, and an object is small. */
public final class RoomTest {
    private static final int CALLS = 500;
    private static int sum = 0;

    public static void main(String[] args) {
        if (!(ManagementFactory.getThreadMXBean() instanceof com.sun.management.ThreadMXBean)) {
            System.out.println("this machine can't count what a thread makes");
            return;
        }
        round(new BirthWeeks());
        long ahead = made();
        BirthWeeks w = new BirthWeeks();
        long object = made() - ahead;
        ahead = made();
        round(w);
        long calls = made() - ahead;
        Due.holds("an object takes " + object + " bytes", object < 60000);
        // the machine itself may make a little where a method runs for the first time
        Due.holds(CALLS + " calls made " + calls + " bytes", calls < 20000);
        System.out.println("an object: " + object + " bytes, calls: " + calls + " bytes, " + (sum == 0 ? "" : "all used"));
        Due.end();
    }

    private static long made() {
        com.sun.management.ThreadMXBean bean = (com.sun.management.ThreadMXBean) ManagementFactory.getThreadMXBean();
        return bean.getThreadAllocatedBytes(Thread.currentThread().getId());
    }

    private static void round(BirthWeeks w) {
        w.deal(6);
        w.sheet(0, 0, 24);
        for (int i = 0; i < CALLS / 17; i++) {
            // birth x+1
            sum += w.feed(0x62697274, 0x6820782b, 0x31202020) + w.text();
            sum += w.days(30) + w.behind(i % 6, 300, 4) + w.meets(0, i % 6) + w.sundays(1, 300) + w.trader(i % 6, 100);
            sum += w.richest(300) + w.brings(i % 6, 300) + w.rated(0, i % 6, 0) + w.fine() + w.reads(0, i % 6);
            sum += w.lay(0, 2, 0) + w.lay(1, 1, 0) + w.keep() + w.tell(i) + w.check(30) + w.back();
        }
    }
}
