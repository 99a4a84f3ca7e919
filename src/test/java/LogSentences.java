/** The sentences on the log. */
final class LogSentences extends Group {
    LogSentences(Sentences sentences) {
        super(sentences);
    }

    @Override
    void test() {
        s.under("LOG");
        s.of("The log is a list of at most 600 events", () -> {
            HelpDesk x = Desks.withEvents(599);
            s.due("599 events", x.logSize(), 599);
            s.due("a twin parts", x.part(59), 0);
            s.due("the six hundredth", x.logType(599) * 1000 + x.logTicket(599), 7059);
            s.due("another parts", x.part(58), 0);
            s.due("a further event is not written", x.logSize(), 600);
            s.due("the last one stays", x.logTicket(599), 59);
            s.due("none behind it", x.logType(600), HelpDesk.OUT_OF_RANGE);
            s.due("but it happens", x.stateOf(58), Desks.QUEUED);
            s.due("as all others do", x.solve(0), 58);
            x.pass(480);
            s.due("and time passes", x.solvedAt(58), 480);
            HelpDesk y = Desks.withEvents(598);
            s.due("sixty solved, room for two", y.solve(0), 60);
            s.due("full", y.logSize(), 600);
            s.due("the root's event", y.logTicket(598), 0);
            s.due("the first twin's event", y.logTicket(599), 1);
            s.due("the last twin", y.solvedAt(59), 0);
        });
        s.nothingIn("An event has a time, a type");
        s.of("The types, with the detail in parentheses", this::types);
        s.of("Events are written in the order in which they happen", () -> {
            HelpDesk x = Desks.calm(4);
            x.join(0, 3);
            x.join(1, 3);
            x.climb(2);
            x.solve(3);
            int[] types = {0, 0, 0, 0, 6, 6, 4, 5, 5, 5};
            int[] tickets = {0, 1, 2, 3, 0, 1, 2, 3, 0, 1};
            for (int i = 0; i < types.length; i++) {
                s.due("type " + i, x.logType(i), types[i]);
                s.due("ticket " + i, x.logTicket(i), tickets[i]);
            }
        });
    }

    private void types() {
        HelpDesk x = new HelpDesk();
        x.addKind(100, 100, 480, 0, 0, true);
        x.addKind(1, 2, 480, 0, 0, true);
        x.setDay(0, 0, 1440);
        x.report(1, 1, 1, 1);
        x.report(0, 1, 1, 1);
        x.climb(1);
        x.climb(1);
        x.setAgents(0, 0);
        x.pass(3);
        x.pause(1);
        x.resume(1);
        x.join(0, 1);
        x.part(0);
        x.solve(0);
        x.reopen(0);
        int[][] due = {{0, 0, 0, 1}, {0, 0, 1, 0}, {0, 4, 1, 1}, {0, 4, 1, 2}, {0, 1, 1, 2}, {2, 8, 0, 1},
            {3, 9, 0, 2}, {3, 2, 1, 0}, {3, 3, 1, 0}, {3, 6, 0, 1}, {3, 7, 0, 1}, {3, 5, 0, 0}, {3, 10, 0, 0}};
        s.due("events", x.logSize(), due.length);
        for (int i = 0; i < due.length; i++) {
            s.due("time of " + i, x.logTime(i), due[i][0]);
            s.due("type of " + i, x.logType(i), due[i][1]);
            s.due("ticket of " + i, x.logTicket(i), due[i][2]);
            s.due("detail of " + i, x.logDetail(i), due[i][3]);
        }
    }
}
