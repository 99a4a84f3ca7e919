/** Promises 11 to 19: the changes of tickets. */
public final class ChangesTest {
    private static final Check check = new Check();
    private static final int[] NO_TICKETS = {-1, -2, 3, 60, Integer.MIN_VALUE, Integer.MAX_VALUE};

    public static void main(String[] args) {
        report();
        sixtyTickets();
        pauseAndResume();
        climb();
        solve();
        reopen();
        reopenWithTwins();
        join();
        joinOfAWorkedTicket();
        part();
        setPriority();
        noSuchTickets();
        solvedOrTwin();
        fullHistory();
        check.finish();
    }

    private static void report() {
        HelpDesk x = new HelpDesk();
        check.due(11, "no kind", x.report(0, 0, 0, 0), HelpDesk.NO_SUCH_KIND);
        x.addKind(10, 60, 20, 0, 0, true);
        x.addKind(10, 60, 20, 0, 0, true);
        x.pass(7);
        check.due(11, "all least", x.report(0, 0, 0, 0), 0);
        check.due(11, "all greatest", x.report(1, 99, 999, 3), 1);
        check.due(11, "kind", x.kindOf(1), 1);
        check.due(11, "priority", x.priorityOf(1), 3);
        check.due(11, "level", x.levelOf(1), 0);
        check.due(11, "state", x.stateOf(1), 0);
        check.due(11, "progress", x.progress(1), 0);
        check.due(11, "response clock", x.responseClock(1), 0);
        check.due(11, "resolve clock", x.resolveClock(1), 0);
        check.due(11, "root", x.rootOf(1), HelpDesk.NONE);
        check.due(11, "time", x.reportedAt(1), 7);
        check.due(11, "not answered", x.answeredAt(1), HelpDesk.NONE);
        check.due(11, "not solved", x.solvedAt(1), HelpDesk.NONE);
        check.due(11, "customer", x.customerTickets(99), 2);
        int[][] wrong = {{0, -1, 0, 0}, {0, 100, 0, 0}, {0, 0, -1, 0}, {0, 0, 1000, 0}, {0, 0, 0, -1}, {0, 0, 0, 4}};
        for (int[] w : wrong) {
            check.due(11, "out of range", x.report(w[0], w[1], w[2], w[3]), HelpDesk.OUT_OF_RANGE);
        }
        check.due(11, "kind before range", x.report(2, 100, 0, 0), HelpDesk.NO_SUCH_KIND);
        check.due(11, "kind -1", x.report(-1, 0, 0, 0), HelpDesk.NO_SUCH_KIND);
        check.due(11, "count", x.ticketCount(), 2);
        check.due(11, "history", x.historyLength(), 2);
        check.due(11, "log", x.logSize(), 2);
    }

    private static void sixtyTickets() {
        HelpDesk x = new HelpDesk();
        x.addKind(10, 60, 20, 0, 0, true);
        for (int t = 0; t < 60; t++) {
            check.due(11, "ticket", x.report(0, 1, 1, 1), t);
        }
        check.due(11, "a sixty-first", x.report(0, 1, 1, 1), HelpDesk.FULL);
        check.due(11, "range before full", x.report(0, 1, 1, 4), HelpDesk.OUT_OF_RANGE);
        check.due(11, "kind before full", x.report(1, 1, 1, 1), HelpDesk.NO_SUCH_KIND);
        check.due(11, "history", x.historyLength(), 60);
        check.due(11, "the last one", x.stateOf(59), 0);
        check.due(11, "mask", x.customerTickets(1), (1L << 60) - 1);
    }

    /** Three tickets, of which number 0 has been worked on for 5 minutes. */
    private static HelpDesk threeTickets() {
        HelpDesk x = new HelpDesk();
        x.addKind(1000, 2000, 20, 0, 0, true);
        x.setDay(0, 0, 1440);
        x.report(0, 1, 5, 3);
        x.report(0, 2, 5, 1);
        x.report(0, 3, 5, 1);
        x.pass(5);
        return x;
    }

    private static void pauseAndResume() {
        HelpDesk x = threeTickets();
        check.due(12, "a ticket in work", x.pause(0), 5);
        check.due(12, "state", x.stateOf(0), 2);
        check.due(12, "progress", x.progress(0), 5);
        check.due(12, "the agent is free", x.busyAgents(0), 0);
        check.due(12, "a paused one", x.pause(0), HelpDesk.WRONG_STATE);
        check.due(12, "a queued ticket", x.pause(2), 5);
        check.due(12, "history", x.historyLength(), 6);
        check.due(13, "a queued one", x.resume(1), HelpDesk.WRONG_STATE);
        x.pass(3);
        check.due(12, "its resolve clock rests", x.resolveClock(0), 5);
        check.due(12, "the response clock of an unanswered one runs", x.responseClock(2), 8);
        check.due(13, "the one in work", x.resume(1), HelpDesk.WRONG_STATE);
        check.due(13, "resume", x.resume(0), 5);
        check.due(13, "state", x.stateOf(0), 0);
        check.due(13, "progress", x.progress(0), 5);
        check.due(13, "again", x.resume(0), HelpDesk.WRONG_STATE);
        check.due(13, "history", x.historyLength(), 7);
        check.due(13, "event", x.logType(x.logSize() - 1), 3);
    }

    private static void climb() {
        HelpDesk x = threeTickets();
        check.due(14, "from work", x.climb(0), 1);
        check.due(14, "state", x.stateOf(0), 0);
        check.due(14, "progress", x.progress(0), 0);
        check.due(14, "level", x.levelOf(0), 1);
        check.due(14, "from the queue", x.climb(0), 2);
        check.due(14, "to the top", x.climb(0), 3);
        check.due(14, "from the top", x.climb(0), HelpDesk.WRONG_STATE);
        check.due(14, "level", x.levelOf(0), 3);
        check.due(14, "history", x.historyLength(), 7);
        x.pause(1);
        check.due(14, "a paused one", x.climb(1), HelpDesk.WRONG_STATE);
        HelpDesk y = new HelpDesk();
        y.addKind(1000, 2000, 20, 0, 10, true);
        y.report(0, 1, 1, 1);
        y.pass(9);
        y.climb(0);
        y.pass(9);
        check.due(14, "the level clock begins anew", y.levelOf(0), 1);
        y.pass(1);
        check.due(14, "and runs", y.levelOf(0), 2);
    }

    private static void solve() {
        HelpDesk x = threeTickets();
        check.due(15, "in work", x.solve(0), 1);
        check.due(15, "state", x.stateOf(0), 3);
        check.due(15, "time", x.solvedAt(0), 5);
        check.due(15, "again", x.solve(0), HelpDesk.WRONG_STATE);
        x.pause(1);
        x.join(2, 1);
        check.due(15, "a twin", x.solve(2), HelpDesk.WRONG_STATE);
        check.due(15, "paused, with a twin", x.solve(1), 2);
        check.due(15, "the twin", x.stateOf(2), 3);
        check.due(15, "its time", x.solvedAt(2), 5);
        check.due(15, "a twin that was solved", x.solve(2), HelpDesk.WRONG_STATE);
        HelpDesk y = threeTickets();
        check.due(15, "queued", y.solve(2), 1);
        check.due(15, "not answered", y.answeredAt(2), HelpDesk.NONE);
    }

    private static void reopen() {
        HelpDesk x = threeTickets();
        x.climb(0);
        x.pass(3);
        x.solve(0);
        x.pass(2);
        check.due(16, "reopen", x.reopen(0), 1);
        check.due(16, "state", x.stateOf(0), 0);
        check.due(16, "level stays", x.levelOf(0), 1);
        check.due(16, "resolve clock stays", x.resolveClock(0), 8);
        check.due(16, "progress", x.progress(0), 0);
        check.due(16, "not solved", x.solvedAt(0), HelpDesk.NONE);
        check.due(16, "answered stays", x.answeredAt(0), 0);
        check.due(16, "again", x.reopen(0), HelpDesk.WRONG_STATE);
        HelpDesk y = new HelpDesk();
        y.addKind(0, 3, 20, 0, 10, true);
        y.report(0, 1, 1, 1);
        y.pass(9);
        y.solve(0);
        y.reopen(0);
        check.due(16, "breaches stay", y.responseBreaches(0) + y.resolveBreaches(0), 2);
        y.pass(9);
        check.due(16, "the level clock begins anew", y.levelOf(0), 0);
        y.pass(1);
        check.due(16, "and runs", y.levelOf(0), 1);
    }

    private static void reopenWithTwins() {
        HelpDesk x = threeTickets();
        x.pause(0);
        x.join(0, 2);
        x.join(1, 2);
        x.solve(2);
        check.due(16, "a twin that was solved", x.reopen(0), HelpDesk.WRONG_STATE);
        check.due(16, "root and twins", x.reopen(2), 3);
        check.due(16, "twin again", x.stateOf(0), 4);
        check.due(16, "twin again", x.stateOf(1), 4);
        check.due(16, "not solved", x.solvedAt(0), HelpDesk.NONE);
        check.due(16, "the twin's progress stays", x.progress(0), 5);
        check.due(16, "one event", x.logType(x.logSize() - 1), 10);
        check.due(16, "of the root", x.logTicket(x.logSize() - 1), 2);
        check.due(16, "before it the last solution", x.logType(x.logSize() - 2), 5);
        x.part(1);
        x.solve(2);
        check.due(16, "without the parted one", x.reopen(2), 2);
        check.due(16, "which is its own", x.stateOf(1), 0);
    }

    private static void join() {
        HelpDesk x = threeTickets();
        check.due(17, "the same", x.join(1, 1), HelpDesk.WRONG_STATE);
        check.due(17, "join", x.join(1, 2), 1);
        check.due(17, "state", x.stateOf(1), 4);
        check.due(17, "root", x.rootOf(1), 2);
        check.due(17, "a twin", x.join(1, 0), HelpDesk.WRONG_STATE);
        check.due(17, "to a twin", x.join(0, 1), HelpDesk.WRONG_STATE);
        int events = x.logSize();
        check.due(17, "with its twins", x.join(2, 0), 2);
        check.due(17, "the twins' root", x.rootOf(1), 0);
        check.due(17, "its root", x.rootOf(2), 0);
        check.due(17, "no twins any more", x.twins(2), 0);
        check.due(17, "all twins", x.twins(0), 6);
        check.due(17, "one event", x.logSize(), events + 1);
        check.due(17, "its detail", x.logDetail(events), 0);
        check.due(17, "its ticket", x.logTicket(events), 2);
        check.due(17, "history", x.historyLength(), 6);
        HelpDesk y = threeTickets();
        y.join(0, 1);
        check.due(17, "with ticket 0 for a twin", y.join(1, 2), 2);
        check.due(17, "the root of ticket 0", y.rootOf(0), 2);
    }

    private static void joinOfAWorkedTicket() {
        HelpDesk x = threeTickets();
        check.due(17, "from work to a queued one", x.join(0, 1), 1);
        check.due(17, "the agent is free", x.busyAgents(0), 0);
        check.due(17, "progress", x.progress(0), 5);
        x.pause(2);
        check.due(17, "from paused", x.join(2, 1), 2);
        HelpDesk y = threeTickets();
        y.pause(0);
        check.due(17, "to a paused one", y.join(1, 0), 1);
        y.pass(4);
        check.due(17, "its resolve clock rests with the root", y.resolveClock(1), 5);
        y.solve(2);
        check.due(17, "to a solved one", y.join(0, 2), HelpDesk.WRONG_STATE);
        check.due(17, "a solved one", y.join(2, 0), HelpDesk.WRONG_STATE);
    }

    private static void part() {
        HelpDesk x = threeTickets();
        x.climb(1);
        x.pass(2);
        check.due(18, "the climbed one is in work", x.progress(1), 2);
        x.join(1, 0);
        check.due(18, "part", x.part(1), 0);
        check.due(18, "state", x.stateOf(1), 0);
        check.due(18, "its level", x.levelOf(1), 1);
        check.due(18, "its progress", x.progress(1), 2);
        check.due(18, "no root", x.rootOf(1), HelpDesk.NONE);
        check.due(18, "no twins", x.twins(0), 0);
        check.due(18, "again", x.part(1), HelpDesk.WRONG_STATE);
        check.due(18, "event", x.logType(x.logSize() - 1), 7);
        x.join(1, 0);
        x.solve(0);
        check.due(18, "a twin that was solved", x.part(1), HelpDesk.WRONG_STATE);
    }

    private static void setPriority() {
        HelpDesk x = threeTickets();
        int events = x.logSize();
        check.due(19, "in work", x.setPriority(0, 0), 3);
        check.due(19, "priority", x.priorityOf(0), 0);
        check.due(19, "queued", x.setPriority(1, 3), 1);
        x.pause(1);
        check.due(19, "paused", x.setPriority(1, 3), 3);
        x.join(1, 2);
        check.due(19, "a twin", x.setPriority(1, 2), 3);
        check.due(19, "no events but of the others", x.logSize(), events + 2);
        check.due(19, "4", x.setPriority(0, 4), HelpDesk.OUT_OF_RANGE);
        check.due(19, "-1", x.setPriority(0, -1), HelpDesk.OUT_OF_RANGE);
        check.due(19, "ticket before range", x.setPriority(3, 4), HelpDesk.NO_SUCH_TICKET);
        x.solve(0);
        check.due(19, "solved", x.setPriority(0, 1), HelpDesk.WRONG_STATE);
        check.due(19, "range before state", x.setPriority(0, 4), HelpDesk.OUT_OF_RANGE);
        check.due(19, "stays", x.priorityOf(0), 0);
    }

    private static void noSuchTickets() {
        HelpDesk x = threeTickets();
        for (int t : NO_TICKETS) {
            check.due(12, "pause " + t, x.pause(t), HelpDesk.NO_SUCH_TICKET);
            check.due(13, "resume " + t, x.resume(t), HelpDesk.NO_SUCH_TICKET);
            check.due(14, "climb " + t, x.climb(t), HelpDesk.NO_SUCH_TICKET);
            check.due(15, "solve " + t, x.solve(t), HelpDesk.NO_SUCH_TICKET);
            check.due(16, "reopen " + t, x.reopen(t), HelpDesk.NO_SUCH_TICKET);
            check.due(17, "join " + t, x.join(t, 0), HelpDesk.NO_SUCH_TICKET);
            check.due(17, "join to " + t, x.join(0, t), HelpDesk.NO_SUCH_TICKET);
            check.due(17, "join to itself " + t, x.join(t, t), HelpDesk.NO_SUCH_TICKET);
            check.due(18, "part " + t, x.part(t), HelpDesk.NO_SUCH_TICKET);
            check.due(19, "setPriority " + t, x.setPriority(t, 0), HelpDesk.NO_SUCH_TICKET);
        }
        check.due(12, "history", x.historyLength(), 4);
        check.due(12, "log", x.logSize(), 4);
    }

    private static void solvedOrTwin() {
        HelpDesk x = threeTickets();
        x.solve(0);
        x.join(2, 1);
        int changes = x.historyLength();
        for (int t : new int[] {0, 2}) {
            check.due(12, "pause " + t, x.pause(t), HelpDesk.WRONG_STATE);
            check.due(13, "resume " + t, x.resume(t), HelpDesk.WRONG_STATE);
            check.due(14, "climb " + t, x.climb(t), HelpDesk.WRONG_STATE);
            check.due(15, "solve " + t, x.solve(t), HelpDesk.WRONG_STATE);
            check.due(17, "join " + t, x.join(t, 1), HelpDesk.WRONG_STATE);
            check.due(17, "join to " + t, x.join(1, t), HelpDesk.WRONG_STATE);
        }
        check.due(16, "reopen a twin", x.reopen(2), HelpDesk.WRONG_STATE);
        check.due(16, "reopen a queued one", x.reopen(1), HelpDesk.WRONG_STATE);
        check.due(18, "part a solved one", x.part(0), HelpDesk.WRONG_STATE);
        check.due(18, "part a root", x.part(1), HelpDesk.WRONG_STATE);
        check.due(12, "history", x.historyLength(), changes);
    }

    private static void fullHistory() {
        HelpDesk x = threeTickets();
        x.solve(0);
        x.join(2, 1);
        x.report(0, 1, 1, 1);
        x.report(0, 1, 1, 1);
        x.pause(4);
        for (int i = x.historyLength(); i < 200; i++) {
            x.setPriority(1, i % 4);
        }
        int events = x.logSize();
        check.due(11, "report", x.report(0, 1, 1, 1), HelpDesk.FULL);
        check.due(12, "pause", x.pause(1), HelpDesk.FULL);
        check.due(13, "resume", x.resume(4), HelpDesk.FULL);
        check.due(14, "climb", x.climb(1), HelpDesk.FULL);
        check.due(15, "solve", x.solve(1), HelpDesk.FULL);
        check.due(16, "reopen", x.reopen(0), HelpDesk.FULL);
        check.due(17, "join", x.join(3, 1), HelpDesk.FULL);
        check.due(18, "part", x.part(2), HelpDesk.FULL);
        check.due(19, "setPriority", x.setPriority(1, 0), HelpDesk.FULL);
        check.due(12, "state before full", x.pause(0), HelpDesk.WRONG_STATE);
        check.due(19, "ticket before full", x.setPriority(5, 0), HelpDesk.NO_SUCH_TICKET);
        check.due(11, "tickets", x.ticketCount(), 5);
        check.due(14, "level", x.levelOf(1), 0);
        check.due(18, "root", x.rootOf(2), 1);
        check.due(19, "priority", x.priorityOf(1), 3);
        check.due(15, "log", x.logSize(), events);
        check.due(20, "but time passes", x.pass(1), 0);
        check.due(47, "history", x.historyLength(), 200);
    }
}
