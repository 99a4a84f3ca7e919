/** Promises 43 to 47: forecasts, replays and the history. */
public final class ForecastsTest {
    private static final Check check = new Check();

    public static void main(String[] args) {
        forecast();
        forecastOfTwinsAndPaused();
        breachesAhead();
        theDeskStays();
        breachesWith();
        replayUntilNow();
        replayLeavesErrorsOut();
        replayOfTheCalendar();
        replayOfOtherLevels();
        replayOfPriorities();
        leastAgents();
        historyLength();
        check.finish();
    }

    private static void forecast() {
        HelpDesk x = new HelpDesk();
        x.addKind(10, 60, 20, 0, 0, true);
        x.addKind(10, 60, 480, 0, 0, true);
        x.report(0, 1, 1, 1);
        x.report(1, 1, 1, 1);
        check.due(43, "on the first day", x.forecast(0), 560);
        check.due(43, "on the next day", x.forecast(1), 1440 + 560);
        check.due(43, "no ticket", x.forecast(2), HelpDesk.NO_SUCH_TICKET);
        check.due(43, "ticket -1", x.forecast(-1), HelpDesk.NO_SUCH_TICKET);
        x.pass(600);
        check.due(43, "solved", x.forecast(0), 560);
        check.due(43, "as before", x.forecast(1), 2000);
        x.setDay(0, 0, 1440);
        check.due(43, "by the present calendar", x.forecast(1), 1040);
        HelpDesk y = new HelpDesk();
        y.addKind(10, 60, 20, 0, 0, true);
        y.setDay(6, 0, 1440);
        y.pass(10060);
        y.report(0, 1, 1, 1);
        check.due(43, "just by the end", y.forecast(0), 10080);
        y.report(0, 1, 1, 1);
        check.due(43, "not by the end", y.forecast(1), HelpDesk.NONE);
        y.pass(20);
        check.due(43, "at the end, solved", y.forecast(0), 10080);
        check.due(43, "at the end, not solved", y.forecast(1), HelpDesk.NONE);
    }

    private static void forecastOfTwinsAndPaused() {
        HelpDesk x = new HelpDesk();
        x.addKind(10, 60, 20, 1, 0, true);
        x.setDay(0, 0, 1440);
        for (int t = 0; t < 3; t++) {
            x.report(0, 1, 1, 1);
        }
        x.join(1, 0);
        x.pause(2);
        check.due(43, "climbing", x.forecast(0), 40);
        check.due(43, "a twin", x.forecast(1), 40);
        check.due(43, "paused", x.forecast(2), HelpDesk.NONE);
        x.setAgents(1, 0);
        check.due(43, "nobody there", x.forecast(0), HelpDesk.NONE);
    }

    private static void breachesAhead() {
        HelpDesk x = new HelpDesk();
        check.due(44, "an empty desk", x.breachesAhead(), 0);
        x.addKind(5, 30, 20, 0, 0, true);
        x.setDay(0, 0, 1440);
        for (int t = 0; t < 3; t++) {
            x.report(0, 1, 1, 1);
        }
        check.due(44, "two late responses, two late solutions", x.breachesAhead(), 4);
        x.pass(6);
        check.due(44, "the late responses have happened", x.breachesAhead(), 2);
        x.pass(30);
        check.due(44, "one solution late, one ahead none", x.breachesAhead(), 0);
        x.setDay(1, 0, 0);
        x.setAgents(0, 0);
        x.report(0, 1, 1, 1);
        check.due(44, "nobody works", x.breachesAhead(), 2);
        x.pass(10080 - 36);
        check.due(44, "at the end", x.breachesAhead(), 0);
    }

    private static void theDeskStays() {
        HelpDesk x = new HelpDesk();
        x.addKind(5, 30, 20, 0, 15, true);
        x.setDay(0, 0, 1440);
        x.report(0, 1, 1, 1);
        x.report(0, 1, 1, 1);
        x.pass(10);
        x.forecast(0);
        x.breachesAhead();
        x.breachesWith(0, 9);
        x.leastAgents(0);
        check.due(43, "time", x.now(), 10);
        check.due(43, "state", x.stateOf(1), 0);
        check.due(44, "clock", x.responseClock(1), 10);
        check.due(45, "agents", x.agents(0), 1);
        check.due(45, "calendar", x.closingMinute(0), 1440);
        check.due(46, "history", x.historyLength(), 3);
        check.due(46, "log", x.logSize(), 4);
        check.due(46, "count", x.ticketCount(), 2);
    }

    private static HelpDesk twoAtOnce() {
        HelpDesk x = new HelpDesk();
        x.addKind(5, 30, 20, 0, 0, true);
        x.setDay(0, 0, 1440);
        x.report(0, 1, 1, 1);
        x.report(0, 1, 1, 1);
        return x;
    }

    private static void breachesWith() {
        HelpDesk x = twoAtOnce();
        x.pass(100);
        check.due(45, "none", x.breachesWith(0, 0), 4);
        check.due(45, "as it was", x.breachesWith(0, 1), 2);
        check.due(45, "two", x.breachesWith(0, 2), 0);
        check.due(45, "nine", x.breachesWith(0, 9), 0);
        check.due(45, "another level", x.breachesWith(3, 0), 2);
        int[][] wrong = {{-1, 0}, {4, 0}, {0, -1}, {0, 10}, {Integer.MAX_VALUE, 1}, {1, Integer.MIN_VALUE}};
        for (int[] w : wrong) {
            check.due(45, "out of range", x.breachesWith(w[0], w[1]), HelpDesk.OUT_OF_RANGE);
        }
    }

    /** A replay ends at the present time; what lies ahead is no part of it. */
    private static void replayUntilNow() {
        HelpDesk x = twoAtOnce();
        x.pass(5);
        check.due(45, "before the first breach", x.breachesWith(0, 0), 0);
        x.pass(1);
        check.due(45, "at it", x.breachesWith(0, 0), 2);
        check.due(45, "at it, one agent", x.breachesWith(0, 1), 1);
        x.pass(10074);
        check.due(45, "at the end of the week", x.breachesWith(0, 0), 4);
    }

    private static void replayLeavesErrorsOut() {
        HelpDesk x = new HelpDesk();
        x.addKind(5, 30, 20, 0, 0, true);
        x.setDay(0, 0, 1440);
        x.report(0, 1, 1, 1);
        x.pass(20);
        x.reopen(0);
        x.pass(10);
        x.pause(0);
        x.report(0, 1, 1, 1);
        x.report(0, 1, 1, 1);
        x.join(2, 1);
        x.pass(100);
        // Without an agent ticket 0 is never solved, so that the reopening is left out.
        check.due(45, "without agents", x.breachesWith(0, 0), 5);
        check.due(45, "as it was", x.breachesWith(0, 1), 0);
        HelpDesk y = new HelpDesk();
        y.addKind(5, 30, 20, 0, 0, true);
        y.setDay(0, 0, 1440);
        y.setAgents(0, 0);
        y.report(0, 1, 1, 1);
        y.report(0, 1, 1, 1);
        y.pass(25);
        y.join(0, 1);
        y.pause(1);
        y.pass(100);
        check.due(45, "joined", y.breachesWith(0, 0), 2);
        // With two agents both are solved before they could be joined.
        check.due(45, "not joined", y.breachesWith(0, 2), 0);
        check.due(45, "one agent: the second cannot be joined to", y.breachesWith(0, 1), 1);
    }

    private static void replayOfTheCalendar() {
        HelpDesk x = new HelpDesk();
        x.addKind(5, 30, 20, 0, 0, true);
        x.report(0, 1, 1, 1);
        x.pass(6);
        x.setDay(0, 0, 1440);
        x.pass(100);
        check.due(45, "closed at first, as it was then", x.breachesWith(0, 1), 1);
    }

    private static void replayOfOtherLevels() {
        HelpDesk x = new HelpDesk();
        x.addKind(100, 30, 20, 1, 0, true);
        x.setDay(0, 0, 1440);
        x.setAgents(0, 2);
        x.setAgents(1, 2);
        x.report(0, 1, 1, 1);
        x.report(0, 1, 1, 1);
        x.pass(200);
        check.due(45, "level 1 has two, level 0 as it was", x.breachesWith(1, 2), 2);
        check.due(45, "its own changes are left out", x.breachesWith(1, 0), 2);
        check.due(45, "those of level 0 are left out", x.breachesWith(0, 1), 2);
        HelpDesk y = new HelpDesk();
        y.addKind(5, 100, 20, 0, 0, true);
        y.setDay(0, 0, 1440);
        y.report(0, 1, 1, 1);
        y.setAgents(0, 0);
        y.pass(50);
        y.setAgents(0, 1);
        y.pass(50);
        check.due(45, "one agent from the beginning", y.breachesWith(0, 1), 0);
        check.due(45, "setAgents of level 0 counts for level 1", y.breachesWith(1, 1), 1);
    }

    private static void replayOfPriorities() {
        HelpDesk x = new HelpDesk();
        x.addKind(5, 500, 20, 0, 0, true);
        x.addKind(500, 500, 20, 0, 0, true);
        x.setDay(0, 0, 1440);
        x.report(1, 1, 1, 1);
        x.report(0, 1, 1, 3);
        x.pass(100);
        check.due(45, "the urgent one first", x.breachesWith(0, 1), 0);
        HelpDesk y = new HelpDesk();
        y.addKind(5, 500, 20, 0, 0, true);
        y.addKind(500, 500, 20, 0, 0, true);
        y.setDay(0, 0, 1440);
        y.report(1, 1, 1, 1);
        y.report(0, 1, 1, 1);
        y.setPriority(0, 0);
        y.pass(100);
        check.due(45, "the other one set back", y.breachesWith(0, 1), 0);
    }

    private static void leastAgents() {
        HelpDesk x = new HelpDesk();
        for (int level = 0; level < 4; level++) {
            check.due(46, "an empty desk", x.leastAgents(level), 0);
        }
        check.due(46, "level -1", x.leastAgents(-1), HelpDesk.OUT_OF_RANGE);
        check.due(46, "level 4", x.leastAgents(4), HelpDesk.OUT_OF_RANGE);
        x.addKind(5, 30, 20, 0, 0, true);
        x.setDay(0, 0, 1440);
        for (int t = 0; t < 9; t++) {
            x.report(0, 1, 1, 1);
        }
        x.pass(100);
        check.due(46, "nine", x.leastAgents(0), 9);
        check.due(46, "none helps", x.leastAgents(1), HelpDesk.NONE);
        x.pass(1000);
        x.report(0, 1, 1, 1);
        check.due(46, "still nine", x.leastAgents(0), 9);
        HelpDesk y = twoAtOnce();
        y.setAgents(0, 0);
        y.pass(100);
        check.due(46, "two", y.leastAgents(0), 2);
    }

    private static void historyLength() {
        HelpDesk x = new HelpDesk();
        check.due(47, "new", x.historyLength(), 0);
        x.addKind(5, 30, 20, 0, 0, true);
        x.pass(5);
        check.due(47, "neither kinds nor time", x.historyLength(), 0);
        int n = 0;
        x.setDay(0, 0, 1440);
        check.due(47, "setDay", x.historyLength(), ++n);
        x.setAgents(0, 2);
        check.due(47, "setAgents", x.historyLength(), ++n);
        x.report(0, 1, 1, 1);
        check.due(47, "report", x.historyLength(), ++n);
        x.pause(0);
        check.due(47, "pause", x.historyLength(), ++n);
        x.resume(0);
        check.due(47, "resume", x.historyLength(), ++n);
        x.climb(0);
        check.due(47, "climb", x.historyLength(), ++n);
        x.solve(0);
        check.due(47, "solve", x.historyLength(), ++n);
        x.reopen(0);
        check.due(47, "reopen", x.historyLength(), ++n);
        x.report(0, 1, 1, 1);
        x.join(1, 0);
        n += 2;
        check.due(47, "join", x.historyLength(), n);
        x.part(1);
        check.due(47, "part", x.historyLength(), ++n);
        x.setPriority(1, 1);
        check.due(47, "setPriority", x.historyLength(), ++n);
        x.setPriority(1, 4);
        x.part(1);
        check.due(47, "not errors", x.historyLength(), n);
    }
}
