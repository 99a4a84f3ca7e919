/** Promises 35 to 42: queues, customers and breaches. */
public final class QueuesTest {
    private static final Check check = new Check();
    private static final int[] NO_LEVELS = {-1, 4, Integer.MIN_VALUE, Integer.MAX_VALUE};

    public static void main(String[] args) {
        levels();
        urgency();
        suggestRoot();
        customers();
        breaches();
        percentiles();
        check.finish();
    }

    private static void levels() {
        HelpDesk x = new HelpDesk();
        for (int level : NO_LEVELS) {
            check.due(35, "queueLength " + level, x.queueLength(level), HelpDesk.OUT_OF_RANGE);
            check.due(36, "nextTicket " + level, x.nextTicket(level), HelpDesk.OUT_OF_RANGE);
            check.due(37, "busyAgents " + level, x.busyAgents(level), HelpDesk.OUT_OF_RANGE);
        }
        x.addKind(10, 60, 200, 0, 0, true);
        x.setDay(0, 0, 1440);
        for (int t = 0; t < 6; t++) {
            x.report(0, 1, 1, 1);
        }
        x.climb(5);
        check.due(35, "level 0", x.queueLength(0), 5);
        check.due(35, "level 1", x.queueLength(1), 1);
        check.due(35, "level 2", x.queueLength(2), 0);
        check.due(36, "level 1", x.nextTicket(1), 5);
        check.due(36, "level 2", x.nextTicket(2), HelpDesk.NONE);
        check.due(37, "none in work", x.busyAgents(0), 0);
        x.setAgents(0, 2);
        x.pass(1);
        check.due(35, "the rest", x.queueLength(0), 3);
        check.due(37, "two in work", x.busyAgents(0), 2);
        check.due(37, "one in work", x.busyAgents(1), 1);
        check.due(36, "none queued", x.nextTicket(1), HelpDesk.NONE);
        x.pause(2);
        x.join(3, 4);
        check.due(35, "neither paused ones nor twins", x.queueLength(0), 1);
        check.due(36, "neither paused ones nor twins", x.nextTicket(0), 4);
        x.pause(0);
        check.due(37, "a paused one is not in work", x.busyAgents(0), 1);
    }

    private static void urgency() {
        HelpDesk x = new HelpDesk();
        x.addKind(1000, 100, 20, 0, 0, true);
        x.addKind(1000, 90, 20, 0, 0, false);
        x.report(0, 1, 1, 1);
        x.report(1, 1, 1, 1);
        check.due(36, "the lower difference", x.nextTicket(0), 1);
        x.pass(9);
        check.due(36, "still lower", x.nextTicket(0), 1);
        x.pass(1);
        check.due(36, "equal: the lower number", x.nextTicket(0), 0);
        x.pass(1);
        check.due(36, "lower as its clock runs", x.nextTicket(0), 0);
        x.setPriority(1, 2);
        check.due(36, "the higher priority", x.nextTicket(0), 1);
        x.pass(200);
        x.setPriority(1, 1);
        check.due(36, "a difference below 0", x.nextTicket(0), 0);
    }

    private static void suggestRoot() {
        HelpDesk x = new HelpDesk();
        x.addKind(10, 60, 20, 0, 0, true);
        x.addKind(10, 60, 20, 0, 0, true);
        x.report(0, 1, 7, 1);
        x.report(0, 1, 8, 1);
        x.report(1, 1, 7, 1);
        x.pass(1);
        x.report(0, 2, 7, 1);
        x.pass(239);
        x.report(0, 3, 7, 1);
        check.due(38, "240 minutes before", x.suggestRoot(4), 0);
        x.pass(1);
        x.report(0, 3, 7, 1);
        check.due(38, "not 241", x.suggestRoot(5), 3);
        check.due(38, "no lower one", x.suggestRoot(0), HelpDesk.NONE);
        check.due(38, "no other subject", x.suggestRoot(1), HelpDesk.NONE);
        check.due(38, "no other kind", x.suggestRoot(2), HelpDesk.NONE);
        x.pause(3);
        check.due(38, "paused", x.suggestRoot(5), 3);
        x.join(3, 0);
        check.due(38, "not a twin", x.suggestRoot(5), 4);
        x.solve(4);
        check.due(38, "not a solved one", x.suggestRoot(5), HelpDesk.NONE);
        check.due(38, "a solved ticket may ask", x.suggestRoot(4), 0);
        check.due(38, "a twin may ask", x.suggestRoot(3), 0);
        x.pass(310);
        check.due(38, "in work", x.stateOf(0) == 1 ? x.suggestRoot(4) : -9, 0);
    }

    private static void customers() {
        HelpDesk x = new HelpDesk();
        x.addKind(10, 60, 20, 0, 0, true);
        check.due(39, "-1", x.customerTickets(-1), HelpDesk.OUT_OF_RANGE);
        check.due(39, "100", x.customerTickets(100), HelpDesk.OUT_OF_RANGE);
        check.due(39, "nobody", x.customerTickets(99), 0);
        for (int t = 0; t < 40; t++) {
            x.report(0, t % 2 == 0 ? 99 : 0, 1, 1);
        }
        long even = 0x5555555555L;
        check.due(39, "customer 99", x.customerTickets(99), even);
        check.due(39, "customer 0", x.customerTickets(0), even << 1);
        x.solve(38);
        x.pause(36);
        x.join(0, 2);
        check.due(39, "but the solved one", x.customerTickets(99), even - (1L << 38));
        x.reopen(38);
        check.due(39, "reopened", x.customerTickets(99), even);
    }

    private static void breaches() {
        HelpDesk x = new HelpDesk();
        check.due(40, "all, no kinds", x.responseBreaches(HelpDesk.NONE), 0);
        check.due(41, "all, no kinds", x.resolveBreaches(HelpDesk.NONE), 0);
        check.due(40, "no kinds", x.responseBreaches(0), HelpDesk.NO_SUCH_KIND);
        check.due(41, "no kinds", x.resolveBreaches(0), HelpDesk.NO_SUCH_KIND);
        x.addKind(10, 60, 20, 0, 0, true);
        x.addKind(20, 30, 20, 0, 0, true);
        x.addKind(20, 30, 20, 0, 0, false);
        for (int kind : new int[] {-2, 3, 6, Integer.MIN_VALUE, Integer.MAX_VALUE}) {
            check.due(40, "responseBreaches " + kind, x.responseBreaches(kind), HelpDesk.NO_SUCH_KIND);
            check.due(41, "resolveBreaches " + kind, x.resolveBreaches(kind), HelpDesk.NO_SUCH_KIND);
        }
        x.report(0, 1, 1, 1);
        x.report(0, 1, 1, 1);
        x.report(1, 1, 1, 1);
        x.report(2, 1, 1, 1);
        x.pass(20);
        check.due(40, "kind 0", x.responseBreaches(0), 2);
        check.due(40, "kind 1", x.responseBreaches(1), 0);
        x.pass(11);
        check.due(40, "all", x.responseBreaches(HelpDesk.NONE), 3);
        check.due(40, "kind 2", x.responseBreaches(2), 0);
        check.due(41, "all", x.resolveBreaches(HelpDesk.NONE), 1);
        check.due(41, "kind 0", x.resolveBreaches(0), 0);
        check.due(41, "kind 1", x.resolveBreaches(1), 1);
        x.solve(2);
        check.due(41, "solved ones too", x.resolveBreaches(1), 1);
        check.due(40, "solved ones too", x.responseBreaches(1), 1);
    }

    private static void percentiles() {
        HelpDesk x = new HelpDesk();
        x.addKind(10, 60, 20, 0, 0, true);
        for (int p : new int[] {0, -1, 101, Integer.MIN_VALUE, Integer.MAX_VALUE}) {
            check.due(42, "percentile " + p, x.resolvePercentile(p), HelpDesk.OUT_OF_RANGE);
        }
        check.due(42, "none solved", x.resolvePercentile(1), HelpDesk.NONE);
        for (int t = 0; t < 8; t++) {
            x.report(0, 1, 1, 1);
        }
        x.solve(6);
        int[] minutes = {5, 5, 0, 20, 10};
        int[] solved = {0, 5, 1, 2, 4};
        for (int i = 0; i < solved.length; i++) {
            if (minutes[i] > 0) {
                x.pass(minutes[i]);
            }
            x.solve(solved[i]);
        }
        // the clocks are 0, 5, 10, 10, 30, 40
        int[][] due = {{1, 0}, {16, 0}, {17, 5}, {33, 5}, {34, 10}, {50, 10}, {51, 10}, {66, 10}, {67, 30}, {83, 30},
            {84, 40}, {99, 40}, {100, 40}};
        for (int[] d : due) {
            check.due(42, "percentile " + d[0], x.resolvePercentile(d[0]), d[1]);
        }
        x.reopen(4);
        check.due(42, "the reopened one is left out", x.resolvePercentile(100), 30);
        HelpDesk y = new HelpDesk();
        y.addKind(10, 60, 20, 0, 0, true);
        for (int t = 0; t < 3; t++) {
            y.report(0, 1, 1, 1);
        }
        for (int t = 2; t >= 0; t--) {
            y.pass(1);
            y.solve(t);
        }
        check.due(42, "of 1, 2, 3 the first", y.resolvePercentile(33), 1);
        check.due(42, "of 1, 2, 3 the second", y.resolvePercentile(34), 2);
        check.due(42, "of 1, 2, 3 the third", y.resolvePercentile(67), 3);
        HelpDesk z = new HelpDesk();
        z.addKind(10, 60, 20, 0, 0, true);
        for (int t = 0; t < 3; t++) {
            z.report(0, 1, 1, 1);
            z.pass(1);
        }
        z.pass(1);
        z.solve(2);
        z.solve(1);
        z.solve(0);
        check.due(42, "of 4, 3, 2 the first", z.resolvePercentile(1), 2);
        check.due(42, "of 4, 3, 2 the second", z.resolvePercentile(50), 3);
        check.due(42, "of 4, 3, 2 the third", z.resolvePercentile(90), 4);
        HelpDesk w = new HelpDesk();
        w.addKind(10, 60, 20, 0, 0, true);
        for (int t = 0; t < 3; t++) {
            w.report(0, 1, 1, 1);
        }
        for (int t = 0; t < 3; t++) {
            w.pass(1);
            w.solve(t);
        }
        check.due(42, "in the order of the tickets", w.resolvePercentile(66), 2);
        check.due(42, "in the order of the tickets", w.resolvePercentile(100), 3);
    }
}
