/** The promises 43 to 52: forecasts, replays, the history and the log. */
final class ForecastSentences extends Group {
    private static final int WRONG = HelpDesk.OUT_OF_RANGE;

    ForecastSentences(Sentences sentences) {
        super(sentences);
    }

    @Override
    void test() {
        forecast();
        forecastAnswers();
        breachesAhead();
        breachesWith();
        leastAgents();
        historyAndLog();
        events();
    }

    private void forecast() {
        s.under("Promise 43: forecast");
        s.of("Forecasts when a ticket will be SOLVED if no more changes are made", () -> {
            HelpDesk x = new HelpDesk();
            x.addKind(10080, 10080, 480, 1, 0, true);
            x.report(0, 1, 1, 1);
            s.due("two days at two levels", x.forecast(0), 1440 + 1020);
            x.setDay(1, 0, 0);
            s.due("a closed day", x.forecast(0), 2 * 1440 + 1020);
            x.climb(0);
            s.due("at its level", x.forecast(0), 1020);
            x.setAgents(1, 0);
            s.due("nobody there", x.forecast(0), HelpDesk.NONE);
        });
        s.of("The desk does not change", () -> {
            HelpDesk x = Desks.ofEveryState();
            s.unchanged(x, "forecast", d -> d.forecast(1), 480);
            s.unchanged(x, "forecast of a twin", d -> d.forecast(4), 960);
            s.due("it goes on as forecast", x.pass(10073), 3);
            s.due("the ticket", x.solvedAt(1), 480);
            s.due("the twin", x.solvedAt(4), 960);
        });
        s.of("- `ticket`: the number of a ticket", () -> {
            HelpDesk x = Desks.open(10080, 10080, 1, 0, 0);
            Desks.report(x, 60);
            s.due("ticket 0", x.forecast(0), 1);
            s.due("ticket 59", x.forecast(59), 60);
            lastOfAll();
        });
    }

    /** The sixtieth ticket, of the sixth kind, begun and put back: its forecast hangs on all of its numbers. */
    private void lastOfAll() {
        HelpDesk x = Desks.calm(0);
        for (int kind = 1; kind < 6; kind++) {
            x.addKind(10080, 10080, 10 * kind, kind == 5 ? 1 : 0, kind == 5 ? 12 : 0, true);
        }
        Desks.report(x, 59);
        x.report(5, 1, 1, 3);
        x.pass(7);
        x.setAgents(0, 0);
        x.pass(5);
        s.due("it climbs, having waited", x.forecast(59), 7 + 12 + 50);
        x.setAgents(0, 1);
        s.due("it goes on where it was, and then climbs", x.forecast(59), 12 + 43 + 50);
        x.setPriority(59, 0);
        s.due("it waits and climbs", x.forecast(59), 12 + 7 + 50);
    }

    private void forecastAnswers() {
        s.of("Returns the time at which it will be SOLVED, or was, if it is SOLVED", () -> {
            HelpDesk x = Desks.ofEveryState();
            s.due("was", x.forecast(3), 0);
            s.due("its twin was", x.forecast(5), 0);
            s.due("will be", x.forecast(1), 480);
            x.reopen(3);
            s.due("reopened", x.forecast(3), 1440);
            x.pass(10073);
            s.due("was by now", x.forecast(1), 480);
            x.report(0, 1, 1, 1);
            x.solve(7);
            s.due("was at the last time", x.forecast(7), 10080);
        });
        s.of("NONE if this will not be by the time 10080", () -> {
            HelpDesk x = new HelpDesk();
            x.addKind(10080, 10080, 10, 0, 0, true);
            x.setDay(6, 1430, 1440);
            x.pass(10000);
            x.report(0, 1, 1, 1);
            x.report(0, 1, 1, 1);
            s.due("just at 10080", x.forecast(0), 10080);
            s.due("not by then", x.forecast(1), HelpDesk.NONE);
            x.setDay(6, 1431, 1440);
            s.due("a minute too few", x.forecast(0), HelpDesk.NONE);
            x.setDay(6, 1429, 1440);
            s.due("a minute more", x.forecast(0), 10079);
            x.pass(80);
            s.due("at 10080", x.forecast(1), HelpDesk.NONE);
            s.due("paused", Desks.ofEveryState().forecast(2), HelpDesk.NONE);
        });
        noSuchTicket(HelpDesk::forecast);
    }

    private void breachesAhead() {
        s.under("Promise 44: breachesAhead");
        s.of("Forecasts how many breaches will happen from now until the time 10080", () -> {
            HelpDesk x = Desks.open(5, 10, 480, 0, 0);
            Desks.report(x, 2);
            s.due("at first", x.breachesAhead(), 3);
            x.pass(5);
            s.due("before the first", x.breachesAhead(), 3);
            x.pass(1);
            s.due("once it has happened", x.breachesAhead(), 2);
            x.pass(5);
            s.due("once all have", x.breachesAhead(), 0);
            HelpDesk y = Desks.open(5, 10080, 480, 0, 0);
            y.setAgents(0, 0);
            y.pass(10074);
            y.report(0, 1, 1, 1);
            s.due("just at 10080", y.breachesAhead(), 1);
            y.pass(1);
            y.report(0, 1, 1, 1);
            s.due("a minute too late for the other", y.breachesAhead(), 1);
            y.pass(5);
            s.due("at 10080", y.breachesAhead(), 0);
        });
        s.of("The desk does not change", () -> {
            HelpDesk x = Desks.open(5, 10, 480, 1, 20);
            Desks.report(x, 60);
            s.unchanged(x, "breachesAhead", HelpDesk::breachesAhead, 119);
            s.unchanged(Desks.withEvents(600), "with a full log", HelpDesk::breachesAhead, 0);
        });
        s.of("Returns the number of response and resolve breaches", () -> {
            s.due("an empty desk", new HelpDesk().breachesAhead(), 0);
            HelpDesk x = Desks.open(0, 10080, 480, 0, 0);
            Desks.report(x, 60);
            s.due("response alone", x.breachesAhead(), 59);
            HelpDesk y = Desks.open(10080, 0, 480, 0, 0);
            Desks.report(y, 60);
            s.due("resolve alone", y.breachesAhead(), 60);
            HelpDesk z = Desks.open(0, 0, 480, 0, 0);
            z.setAgents(0, 0);
            Desks.report(z, 60);
            s.due("all that can be", z.breachesAhead(), 120);
            s.due("of six kinds", ofSixKinds().breachesAhead(), 12);
        });
    }

    /** Nobody works, and each kind has a ticket that will be late for an answer and for a solution. */
    private static HelpDesk ofSixKinds() {
        HelpDesk x = Desks.open(0, 3, 480, 0, 0);
        x.setAgents(0, 0);
        x.report(0, 1, 1, 1);
        for (int kind = 1; kind < 6; kind++) {
            x.addKind(kind, 3 + kind, 480, 0, 0, true);
            x.report(kind, 1, 1, 1);
        }
        return x;
    }

    private void breachesWith() {
        s.under("Promise 45: breachesWith");
        s.of("- `level`: 0 to 3", () -> {
            HelpDesk x = Desks.open(0, 10080, 480, 0, 0);
            x.setAgents(3, 0);
            Desks.report(x, 4);
            x.climb(0);
            x.climb(0);
            x.climb(0);
            x.pass(1);
            s.due("0", x.breachesWith(0, 3), 1);
            s.due("3", x.breachesWith(3, 1), 2);
            for (int level : Desks.beside(0, 3)) {
                s.unchanged(x, "level " + level, d -> d.breachesWith(level, 1), WRONG);
            }
        });
        s.of("- `number`: 0 to 9", () -> {
            HelpDesk x = Desks.open(0, 10080, 480, 0, 0);
            Desks.report(x, 10);
            x.pass(1);
            for (int number = 0; number < 10; number++) {
                s.due("" + number, x.breachesWith(0, number), 10 - number);
            }
            for (int number : Desks.beside(0, 9)) {
                s.unchanged(x, "with " + number, d -> d.breachesWith(0, number), WRONG);
            }
        });
        s.of("Returns the number of response and resolve breaches in the replay", () -> {
            s.due("an empty desk", new HelpDesk().breachesWith(0, 0), 0);
            HelpDesk x = Desks.open(0, 2, 480, 0, 0);
            Desks.report(x, 60);
            s.due("at time 0", x.breachesWith(0, 0), 0);
            x.pass(2);
            s.due("response alone until now", x.breachesWith(0, 1), 59);
            x.pass(1);
            s.due("resolve, too", x.breachesWith(0, 1), 119);
            s.due("all that can be", x.breachesWith(0, 0), 120);
            x.pass(10077);
            Desks.fillHistory(x);
            s.due("a full history, at the last time", x.breachesWith(0, 0), 120);
            HelpDesk y = ofSixKinds();
            for (int time = 1; time < 12; time++) {
                y.pass(1);
                int late = Math.min(6, time) + Math.max(0, Math.min(6, time - 3));
                s.due("of six kinds, at " + time, y.breachesWith(0, 0), late);
            }
        });
        s.of("OUT_OF_RANGE", () -> {
            s.unchanged(new HelpDesk(), "both too small", d -> d.breachesWith(-1, -1), WRONG);
            s.unchanged(new HelpDesk(), "both too large", d -> d.breachesWith(4, 10), WRONG);
        });
    }

    private void leastAgents() {
        s.under("Promise 46: leastAgents");
        s.of("- `level`: 0 to 3", () -> {
            HelpDesk x = Desks.open(0, 10080, 480, 0, 0);
            Desks.report(x, 1);
            x.pass(1);
            s.due("0", x.leastAgents(0), 1);
            s.due("3", x.leastAgents(3), 0);
        });
        s.of("Returns the least number of agents, 0 to 9, for which the replay", () -> {
            for (int tickets = 0; tickets < 10; tickets++) {
                HelpDesk x = Desks.open(0, 10080, 480, 0, 0);
                Desks.report(x, tickets);
                x.pass(1);
                s.due("as many as tickets", x.leastAgents(0), tickets);
            }
        });
        s.of("NONE if there is none", () -> {
            HelpDesk x = Desks.open(0, 10080, 480, 0, 0);
            Desks.report(x, 10);
            s.due("at time 0", x.leastAgents(0), 0);
            x.pass(1);
            s.due("ten would be needed", x.leastAgents(0), HelpDesk.NONE);
            s.due("of another level", x.leastAgents(3), HelpDesk.NONE);
        });
        refused("OUT_OF_RANGE", HelpDesk::leastAgents, 0, 3, WRONG);
    }

    private void historyAndLog() {
        s.under("Promise 47: historyLength");
        s.of("Returns the number of changes in the history", () -> {
            HelpDesk x = new HelpDesk();
            for (int changes = 0; changes < 200; changes++) {
                s.due("changes", x.historyLength(), changes);
                x.setDay(changes % 7, 1, 2);
            }
            s.due("full", x.historyLength(), 200);
            x.setDay(0, 1, 2);
            s.due("no more", x.historyLength(), 200);
        });
        s.under("Promise 48: logSize");
        s.of("Returns the number of events in the log", () -> {
            HelpDesk x = Desks.calm(0);
            for (int events = 0; events < 60; events++) {
                s.due("events", x.logSize(), events);
                x.report(0, 1, 1, 1);
            }
            for (int events = 599; events <= 600; events++) {
                s.due("many", Desks.withEvents(events).logSize(), events);
            }
            HelpDesk y = Desks.withEvents(600);
            y.solve(0);
            s.due("no more than 600", y.logSize(), 600);
        });
    }

    private void events() {
        event("Promise 49: logTime", "Returns the time of that event", HelpDesk::logTime, 0, 0, 0, 0, 30, 4);
        event("Promise 50: logType", "Returns the type of that event", HelpDesk::logType, 0, 0, 2, 3, 10, 8);
        event("Promise 51: logTicket", "Returns the ticket of that event", HelpDesk::logTicket, 0, 59, 0, 0, 0, 2);
        event("Promise 52: logDetail", "Returns the detail of that event", HelpDesk::logDetail, 0, 0, 0, 0, 0, 3);
    }

    /** Due are the events 0, 59, 598 and 599 of a full log, a reopening and a breach. */
    private void event(String head, String returns, Call call, int... due) {
        s.under(head);
        s.of("- `index`: an index, 0 for the first event", () -> {
            HelpDesk x = Desks.withEvents(600);
            int[] indices = {0, 59, 598, 599};
            for (int i = 0; i < indices.length; i++) {
                s.due("event " + indices[i], call.of(x, indices[i]), due[i]);
            }
        });
        s.of(returns, () -> {
            HelpDesk x = Desks.calm(1);
            x.pass(30);
            x.solve(0);
            x.reopen(0);
            s.due("reopened", call.of(x, 3), due[4]);
            HelpDesk y = Desks.open(3, 10080, 480, 0, 0);
            y.setAgents(0, 0);
            Desks.report(y, 3);
            y.solve(0);
            y.solve(1);
            y.pass(10080);
            s.due("breach", call.of(y, 5), due[5]);
        });
        s.of("OUT_OF_RANGE", () -> {
            s.unchanged(new HelpDesk(), "0 of none", d -> call.of(d, 0), WRONG);
            HelpDesk x = Desks.withEvents(600);
            for (int index : Desks.beside(0, 599)) {
                s.unchanged(x, "event " + index, d -> call.of(d, index), WRONG);
            }
            HelpDesk y = Desks.calm(1);
            y.save(0);
            y.report(0, 1, 1, 1);
            y.restore(0);
            s.unchanged(y, "1 of one", d -> call.of(d, 1), WRONG);
        });
    }
}
