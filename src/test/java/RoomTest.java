import java.lang.management.ManagementFactory;

/** All calls of a run live in one room: only the making of an object and its first two saves take any of it. */
public final class RoomTest {
    private static final Check check = new Check();
    private static final com.sun.management.ThreadMXBean THREADS =
            (com.sun.management.ThreadMXBean) ManagementFactory.getThreadMXBean();

    public static void main(String[] args) {
        THREADS.getCurrentThreadAllocatedBytes();
        dearCalls(new HelpDesk());
        long start = THREADS.getCurrentThreadAllocatedBytes();
        HelpDesk x = new HelpDesk();
        x.save(0);
        x.save(1);
        long made = THREADS.getCurrentThreadAllocatedBytes() - start;
        check.due(1, "an object of at most 100,000 bytes, " + made, made <= 100_000, true);
        start = THREADS.getCurrentThreadAllocatedBytes();
        dearCalls(x);
        long used = THREADS.getCurrentThreadAllocatedBytes() - start;
        check.due(1, "calls that make nothing, " + used, used <= 2_000, true);
        check.finish();
    }

    private static void dearCalls(HelpDesk x) {
        x.addKind(3, 40, 30, 2, 50, true);
        for (int t = 0; t < 60; t++) {
            x.report(0, t, t, t % 4);
        }
        for (int round = 0; round < 40; round++) {
            x.pass(150);
            x.join(2 * round % 60, (2 * round + 1) % 60);
            x.forecast(round);
            x.breachesAhead();
            x.breachesWith(round % 4, 3);
            x.leastAgents(round % 4);
            x.resolvePercentile(50);
            x.appendText(0x70617373);
            x.appendText(0x20313b20);
            x.runScript();
            x.save(round % 2);
            x.restore(1);
        }
    }
}
