/** Promises 22 to 34: what is told of a ticket. */
public final class TicketsTest {
    private static final Check check = new Check();

    public static void main(String[] args) {
        noSuchTickets();
        told();
        roots();
        sixtyTwins();
        check.finish();
    }

    private static void noSuchTickets() {
        HelpDesk x = new HelpDesk();
        check.due(22, "ticketCount", x.ticketCount(), 0);
        x.addKind(10, 60, 20, 0, 0, true);
        ask(x, 0);
        x.report(0, 1, 1, 1);
        check.due(22, "ticketCount", x.ticketCount(), 1);
        for (int t : new int[] {-1, 1, 59, 60, Integer.MIN_VALUE, Integer.MAX_VALUE}) {
            ask(x, t);
        }
    }

    private static void ask(HelpDesk x, int t) {
        int no = HelpDesk.NO_SUCH_TICKET;
        check.due(23, "stateOf " + t, x.stateOf(t), no);
        check.due(24, "kindOf " + t, x.kindOf(t), no);
        check.due(25, "levelOf " + t, x.levelOf(t), no);
        check.due(26, "priorityOf " + t, x.priorityOf(t), no);
        check.due(27, "progress " + t, x.progress(t), no);
        check.due(28, "rootOf " + t, x.rootOf(t), no);
        check.due(29, "twins " + t, x.twins(t), no);
        check.due(30, "reportedAt " + t, x.reportedAt(t), no);
        check.due(31, "answeredAt " + t, x.answeredAt(t), no);
        check.due(32, "solvedAt " + t, x.solvedAt(t), no);
        check.due(33, "responseClock " + t, x.responseClock(t), no);
        check.due(34, "resolveClock " + t, x.resolveClock(t), no);
        check.due(38, "suggestRoot " + t, x.suggestRoot(t), no);
        check.due(43, "forecast " + t, x.forecast(t), no);
    }

    /** A ticket of the second kind, reported at 3, answered at 540, that climbs once and is solved at 570. */
    private static void told() {
        HelpDesk x = new HelpDesk();
        x.addKind(10, 60, 20, 0, 0, false);
        x.addKind(10, 60, 15, 1, 0, true);
        x.pass(3);
        x.report(0, 1, 1, 0);
        x.report(1, 1, 1, 2);
        check.due(23, "queued", x.stateOf(1), 0);
        check.due(24, "kind", x.kindOf(1), 1);
        check.due(24, "kind", x.kindOf(0), 0);
        check.due(26, "priority", x.priorityOf(1), 2);
        check.due(30, "reported", x.reportedAt(1), 3);
        check.due(31, "not answered", x.answeredAt(1), HelpDesk.NONE);
        check.due(32, "not solved", x.solvedAt(1), HelpDesk.NONE);
        x.pass(544);
        check.due(23, "in work", x.stateOf(1), 1);
        check.due(27, "progress", x.progress(1), 7);
        check.due(31, "answered", x.answeredAt(1), 540);
        check.due(33, "response clock", x.responseClock(1), 537);
        check.due(34, "resolve clock", x.resolveClock(1), 544);
        check.due(33, "of the other", x.responseClock(0), 7);
        x.pass(9);
        check.due(25, "climbed", x.levelOf(1), 1);
        check.due(27, "progress of level 1", x.progress(1), 1);
        x.pause(1);
        check.due(23, "paused", x.stateOf(1), 2);
        x.resume(1);
        x.pass(14);
        check.due(23, "solved", x.stateOf(1), 3);
        check.due(32, "solved", x.solvedAt(1), 570);
        check.due(31, "answered once", x.answeredAt(1), 540);
        check.due(34, "resolve clock", x.resolveClock(1), 567);
        x.pass(50);
        check.due(34, "it rests", x.resolveClock(1), 567);
        x.reopen(1);
        check.due(32, "not solved any more", x.solvedAt(1), HelpDesk.NONE);
    }

    private static void roots() {
        HelpDesk x = new HelpDesk();
        x.addKind(10, 60, 20, 0, 0, true);
        for (int t = 0; t < 4; t++) {
            x.report(0, 1, 1, 1);
        }
        check.due(28, "none", x.rootOf(3), HelpDesk.NONE);
        check.due(29, "none", x.twins(3), 0);
        x.join(3, 1);
        x.join(0, 1);
        check.due(23, "twin", x.stateOf(3), 4);
        check.due(28, "root", x.rootOf(3), 1);
        check.due(28, "the root's root", x.rootOf(1), HelpDesk.NONE);
        check.due(29, "twins", x.twins(1), 9);
        x.solve(1);
        check.due(28, "a solved twin keeps its root", x.rootOf(3), 1);
        check.due(29, "a solved root keeps its twins", x.twins(1), 9);
        x.reopen(1);
        check.due(29, "reopened", x.twins(1), 9);
        x.part(3);
        check.due(28, "parted", x.rootOf(3), HelpDesk.NONE);
        check.due(29, "but one", x.twins(1), 1);
    }

    private static void sixtyTwins() {
        HelpDesk x = new HelpDesk();
        x.addKind(10, 60, 20, 0, 0, true);
        for (int t = 0; t < 60; t++) {
            x.report(0, 1, 1, 1);
        }
        for (int t = 1; t < 60; t++) {
            check.due(17, "join", x.join(t, 0), t);
        }
        check.due(29, "59 twins", x.twins(0), (1L << 60) - 2);
        check.due(15, "solve", x.solve(0), 60);
        check.due(16, "reopen", x.reopen(0), 60);
        check.due(39, "all are the customer's", x.customerTickets(1), (1L << 60) - 1);
        check.due(43, "the last one", x.forecast(59), 560);
        check.due(44, "all are late", x.breachesAhead(), 120);
        check.due(38, "the first", x.suggestRoot(59), 0);
        x.pass(600);
        check.due(40, "all were late", x.responseBreaches(0), 60);
        check.due(41, "all were late", x.resolveBreaches(0), 60);
        check.due(42, "all clocks", x.resolvePercentile(100), 560);
        check.due(42, "all clocks", x.resolvePercentile(1), 560);
        check.due(45, "replay", x.breachesWith(0, 9), 120);
        check.due(35, "queue", x.queueLength(0), 0);
        check.due(36, "next", x.nextTicket(0), HelpDesk.NONE);
        check.due(37, "busy", x.busyAgents(0), 0);
        check.due(9, "agents", x.setAgents(0, 0), 1);
    }
}
