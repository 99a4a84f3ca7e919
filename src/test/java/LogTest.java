/** Promises 48 to 52: the log. */
public final class LogTest {
    private static final Check check = new Check();

    public static void main(String[] args) {
        everyType();
        noSuchEvents();
        order();
        fullLog();
        check.finish();
    }

    /** Time, type, ticket and detail of each event are due as the rows tell. */
    private static void due(HelpDesk x, int[][] rows) {
        check.due(48, "logSize", x.logSize(), rows.length);
        for (int i = 0; i < rows.length; i++) {
            check.due(49, "logTime " + i, x.logTime(i), rows[i][0]);
            check.due(50, "logType " + i, x.logType(i), rows[i][1]);
            check.due(51, "logTicket " + i, x.logTicket(i), rows[i][2]);
            check.due(52, "logDetail " + i, x.logDetail(i), rows[i][3]);
        }
    }

    private static void everyType() {
        HelpDesk x = new HelpDesk();
        x.addKind(1000, 1000, 20, 0, 0, true);
        x.addKind(3, 6, 20, 0, 0, true);
        x.setDay(0, 0, 1440);
        x.report(1, 1, 1, 0);
        x.pass(1);
        x.pause(0);
        x.report(0, 1, 1, 0);
        x.report(1, 1, 1, 0);
        x.resume(0);
        x.climb(2);
        x.setAgents(1, 0);
        x.climb(0);
        x.climb(0);
        x.pass(8);
        x.join(1, 2);
        x.part(1);
        x.join(1, 0);
        x.solve(0);
        x.reopen(0);
        due(x, new int[][] {{0, 0, 0, 1}, {0, 1, 0, 0}, {1, 2, 0, 0}, {1, 0, 1, 0}, {1, 0, 2, 1}, {1, 3, 0, 0},
            {1, 4, 2, 1}, {1, 4, 0, 1}, {1, 4, 0, 2}, {1, 1, 1, 0}, {1, 1, 0, 2}, {5, 8, 2, 3}, {7, 9, 0, 6},
            {8, 9, 2, 6}, {9, 6, 1, 2}, {9, 7, 1, 2}, {9, 6, 1, 0}, {9, 5, 0, 0}, {9, 5, 1, 0}, {9, 10, 0, 0}});
    }

    private static void noSuchEvents() {
        HelpDesk x = new HelpDesk();
        x.addKind(10, 10, 20, 0, 0, true);
        for (int events = 0; events < 2; events++) {
            check.due(48, "logSize", x.logSize(), events);
            for (int i : new int[] {-1, events, 600, Integer.MIN_VALUE, Integer.MAX_VALUE}) {
                check.due(49, "logTime " + i, x.logTime(i), HelpDesk.OUT_OF_RANGE);
                check.due(50, "logType " + i, x.logType(i), HelpDesk.OUT_OF_RANGE);
                check.due(51, "logTicket " + i, x.logTicket(i), HelpDesk.OUT_OF_RANGE);
                check.due(52, "logDetail " + i, x.logDetail(i), HelpDesk.OUT_OF_RANGE);
            }
            x.report(0, 1, 1, 1);
        }
    }

    /** In one minute: taken, breaches ticket by ticket, work done, climbs. */
    private static void order() {
        HelpDesk x = new HelpDesk();
        x.addKind(0, 0, 1, 0, 0, true);
        x.addKind(0, 0, 1, 1, 1, true);
        x.setDay(0, 0, 1440);
        x.setAgents(0, 2);
        x.report(1, 1, 1, 0);
        x.report(1, 1, 1, 3);
        x.report(0, 1, 1, 3);
        x.report(0, 1, 1, 0);
        x.join(3, 2);
        x.pass(1);
        due(x, new int[][] {{0, 0, 0, 1}, {0, 0, 1, 1}, {0, 0, 2, 0}, {0, 0, 3, 0}, {0, 6, 3, 2}, {0, 1, 1, 0},
            {0, 1, 2, 0}, {1, 8, 0, 0}, {1, 9, 0, 0}, {1, 9, 1, 0}, {1, 9, 2, 0}, {1, 9, 3, 0}, {1, 4, 1, 1},
            {1, 5, 2, 0}, {1, 5, 3, 0}, {1, 4, 0, 1}});
    }

    private static void fullLog() {
        HelpDesk x = new HelpDesk();
        x.addKind(1, 1, 480, 0, 0, true);
        for (int t = 0; t < 60; t++) {
            x.report(0, 1, 1, 1);
        }
        for (int t = 1; t < 60; t++) {
            x.join(t, 0);
        }
        for (int i = 0; i < 7; i++) {
            x.solve(0);
            x.reopen(0);
        }
        check.due(48, "nearly full", x.logSize(), 119 + 7 * 61);
        x.part(59);
        x.part(58);
        x.solve(0);
        check.due(48, "full", x.logSize(), 600);
        check.due(51, "the last one written", x.logTicket(599), 51);
        check.due(49, "behind it", x.logTime(600), HelpDesk.OUT_OF_RANGE);
        check.due(23, "but all are solved", x.stateOf(57), 3);
        x.report(0, 1, 1, 1);
        x.pass(3);
        check.due(48, "stays full", x.logSize(), 600);
        check.due(41, "breaches happen all the same", x.resolveBreaches(0), 2);
        check.due(47, "changes are recorded all the same", x.historyLength(), 60 + 59 + 14 + 3);
    }
}
