/** The sentences on the whole, on time, kinds, levels, tickets and errors. */
final class PlainSentences extends Group {
    PlainSentences(Sentences sentences) {
        super(sentences);
    }

    @Override
    void test() {
        whatItIs();
        time();
        kinds();
        levels();
        tickets();
        states();
        urgency();
        errors();
        constants();
        notPromised();
    }

    private void whatItIs() {
        s.under("What it is");
        s.nothingIn("A simulator of", "Tickets are queued", "Two clocks of", "The simulator forecasts");
        s.of("An object is used for at most 512 calls", () -> {
            HelpDesk x = new HelpDesk();
            for (int call = 1; call < 512; call++) {
                x.pass(1);
            }
            s.due("now, the 512th call", x.now(), 511);
            HelpDesk y = Desks.calm(60);
            for (int call = 62; call < 510; call++) {
                y.pause(call % 60);
            }
            y.pass(5);
            s.due("breachesWith, the 512th call", y.breachesWith(3, 9), 0);
        });
    }

    private void time() {
        s.under("TIME");
        s.of("Time is counted", () -> {
            HelpDesk x = new HelpDesk();
            s.due("the first time", x.now(), 0);
            s.due("to the last time", x.pass(10080), 0);
            s.due("the last time", x.now(), 10080);
            s.unchanged(x, "a minute more", d -> d.pass(1), HelpDesk.OUT_OF_RANGE);
            x.addKind(1, 1, 1, 0, 0, true);
            s.due("a change at the last time", x.report(0, 1, 1, 1), 0);
            s.due("its time", x.reportedAt(0), 10080);
            s.due("what lies ahead of the last time", x.breachesAhead(), 0);
        });
        s.of("Minute m is the time from m to m + 1; it belongs to day", () -> {
            for (int day = 0; day < 7; day++) {
                HelpDesk x = closedWeek();
                x.setDay(day, 0, 1440);
                s.due("its first minute", x.isOpen(day * 1440), 1);
                s.due("its last minute", x.isOpen(day * 1440 + 1439), 1);
                s.due("the minute before", x.isOpen(day * 1440 - 1), day == 0 ? HelpDesk.OUT_OF_RANGE : 0);
                s.due("the minute behind", x.isOpen(day * 1440 + 1440), day == 6 ? HelpDesk.OUT_OF_RANGE : 0);
                s.due("its minutes", x.openMinutes(0, 10080), 1440);
            }
        });
        s.of("Each day has an opening minute", () -> {
            HelpDesk x = new HelpDesk();
            for (int day = 0; day < 7; day++) {
                x.setDay(day, 10 * day, 100 + day);
            }
            for (int day = 0; day < 7; day++) {
                s.due("opening of " + day, x.openingMinute(day), 10 * day);
                s.due("closing of " + day, x.closingMinute(day), 100 + day);
            }
        });
        s.of("Minute m is open if", () -> {
            HelpDesk x = closedWeek();
            x.setDay(2, 100, 103);
            int[] due = {0, 1, 1, 1, 0};
            for (int i = 0; i < due.length; i++) {
                s.due("minute " + (99 + i), x.isOpen(2 * 1440 + 99 + i), due[i]);
            }
            s.due("of another day", x.isOpen(1440 + 101), 0);
        });
        s.of("At first the days 0 to 4", () -> {
            HelpDesk x = new HelpDesk();
            for (int day = 0; day < 7; day++) {
                s.due("opening of " + day, x.openingMinute(day), day < 5 ? 540 : 0);
                s.due("closing of " + day, x.closingMinute(day), day < 5 ? 1020 : 0);
                s.due("minutes of " + day, x.openMinutes(1440 * day, 1440 * day + 1440), day < 5 ? 480 : 0);
            }
        });
    }

    private static HelpDesk closedWeek() {
        HelpDesk x = new HelpDesk();
        for (int day = 0; day < 5; day++) {
            x.setDay(day, 0, 0);
        }
        return x;
    }

    private void kinds() {
        s.under("KINDS");
        s.of("There are at most 6 kinds", () -> {
            HelpDesk x = new HelpDesk();
            for (int kind = 0; kind < 6; kind++) {
                s.due("kind", x.addKind(1, 1, 1, 0, 0, true), kind);
            }
            s.unchanged(x, "a seventh", d -> d.addKind(1, 1, 1, 0, 0, true), HelpDesk.FULL);
            s.due("a ticket of the last", x.report(5, 1, 1, 1), 0);
            s.due("a ticket of a seventh", x.report(6, 1, 1, 1), HelpDesk.NO_SUCH_KIND);
        });
        s.of("A kind has a response target", () -> {
            HelpDesk x = new HelpDesk();
            s.due("all least", x.addKind(0, 0, 1, 0, 0, false), 0);
            s.due("all greatest", x.addKind(10080, 10080, 480, 3, 10080, true), 1);
            x.setAgents(0, 0);
            x.report(0, 1, 1, 1);
            x.report(1, 1, 1, 1);
            x.pass(10079);
            s.due("climb time 10080, a minute before", x.levelOf(1), 0);
            x.pass(1);
            s.due("climb time 10080", x.levelOf(1), 1);
            s.due("climb time 0", x.levelOf(0), 0);
            s.due("targets of 0", x.responseBreaches(0) + x.resolveBreaches(0), 2);
            s.due("targets of 10080", x.responseBreaches(1) + x.resolveBreaches(1), 0);
        });
        s.of("A minute counts for a ticket if", () -> {
            HelpDesk x = new HelpDesk();
            x.addKind(10080, 10080, 1, 0, 0, false);
            x.addKind(10080, 10080, 1, 0, 0, true);
            x.setAgents(0, 0);
            x.report(0, 1, 1, 1);
            x.report(1, 1, 1, 1);
            int[][] due = {{540, 0, 540}, {1, 1, 541}, {479, 480, 1020}, {1, 480, 1021}, {9059, 2400, 10080}};
            for (int[] d : due) {
                x.pass(d[0]);
                s.due("when open, at " + x.now(), x.resolveClock(0), d[1]);
                s.due("always, at " + x.now(), x.resolveClock(1), d[2]);
            }
        });
    }

    private void levels() {
        s.under("LEVELS AND AGENTS");
        s.of("There are four levels", () -> {
            HelpDesk x = new HelpDesk();
            for (int level = 0; level < 4; level++) {
                s.due("level " + level, x.agents(level), 1);
            }
            for (int level : Desks.beside(0, 3)) {
                s.due("level " + level, x.agents(level), HelpDesk.OUT_OF_RANGE);
            }
        });
        s.of("Each level has 0 to 9 agents", () -> {
            for (int level = 0; level < 4; level++) {
                HelpDesk x = new HelpDesk();
                int at = level;
                s.due("at first", x.setAgents(level, 0), 1);
                s.due("to 9", x.setAgents(level, 9), 0);
                s.unchanged(x, "10", d -> d.setAgents(at, 10), HelpDesk.OUT_OF_RANGE);
                s.unchanged(x, "-1", d -> d.setAgents(at, -1), HelpDesk.OUT_OF_RANGE);
                s.due("stays 9", x.agents(level), 9);
            }
        });
        s.of("An agent works on one ticket at a time", () -> {
            HelpDesk x = new HelpDesk();
            x.addKind(10080, 10080, 480, 0, 0, true);
            Desks.report(x, 2);
            x.pass(540);
            s.due("before the opening", x.progress(0) + x.busyAgents(0), 0);
            x.pass(1);
            s.due("one of two", x.busyAgents(0), 1);
            x.pass(478);
            s.due("all open minutes but one", x.progress(0) * 1000 + x.progress(1), 479_000);
            x.pass(1);
            s.due("the last open minute", x.stateOf(0), Desks.SOLVED);
            x.pass(1440 - 1020 + 540);
            s.due("not in a closed minute", x.stateOf(1), Desks.QUEUED);
            x.pass(1);
            s.due("one at a time", x.answeredAt(1), 1980);
            HelpDesk y = new HelpDesk();
            y.addKind(10080, 10080, 480, 0, 0, true);
            y.pass(700);
            y.report(0, 1, 1, 1);
            y.pass(400);
            y.report(0, 1, 1, 3);
            for (int day = 0; day < 2; day++) {
                s.due("its agent keeps it in closed minutes", y.stateOf(0), Desks.IN_WORK);
                s.due("the other one waits", y.nextTicket(0), 1);
                s.due("taken once", y.logSize(), 3);
                s.due("320 open minutes", y.progress(0), 320);
                y.pass(440);
            }
            y.pass(559);
            s.due("320 and 160 open minutes", y.solvedAt(0), 1440 + 700);
        });
    }

    private void tickets() {
        s.under("TICKETS");
        s.of("There are at most 60 tickets", () -> {
            HelpDesk x = new HelpDesk();
            x.addKind(1, 1, 1, 0, 0, true);
            for (int t = 0; t < 60; t++) {
                s.due("ticket", x.report(0, 1, 1, 1), t);
            }
            s.unchanged(x, "a sixty-first", d -> d.report(0, 1, 1, 1), HelpDesk.FULL);
            x.solve(0);
            s.unchanged(x, "solved ones leave no room", d -> d.report(0, 1, 1, 1), HelpDesk.FULL);
        });
        s.of("A ticket has a kind, a customer", () -> {
            HelpDesk x = Desks.calm(0);
            s.due("all least", x.report(0, 0, 0, 0), 0);
            s.due("all greatest", x.report(0, 99, 999, 3), 1);
            s.due("customers", x.customerTickets(0) * 10 + x.customerTickets(99), 12);
            s.due("priorities", x.priorityOf(0) * 10 + x.priorityOf(1), 3);
            for (int t = 0; t < 2; t++) {
                s.due("at first", x.levelOf(t) + x.progress(t) + x.responseClock(t) + x.resolveClock(t), 0);
            }
            HelpDesk y = Desks.open(1, 1, 1, 0, 3);
            y.pass(100);
            y.setAgents(0, 0);
            y.report(0, 1, 1, 1);
            y.pass(2);
            s.due("the level clock is 0 at first", y.levelOf(0), 0);
            y.pass(1);
            s.due("and then runs", y.levelOf(0), 1);
        });
    }

    private void states() {
        s.under("TICKETS");
        s.of("0 QUEUED: it waits", () -> s.due("the first state", Desks.calm(1).stateOf(0), Desks.QUEUED));
        s.of("1 IN WORK: an agent", () -> {
            HelpDesk x = Desks.calm(1);
            x.climb(0);
            x.setAgents(1, 0);
            x.pass(1);
            s.due("no agent of its level", x.stateOf(0), Desks.QUEUED);
            x.setAgents(1, 1);
            x.pass(1);
            s.due("an agent of its level", x.stateOf(0), Desks.IN_WORK);
            s.due("at this level", x.busyAgents(1), 1);
            s.due("at no other", x.busyAgents(0), 0);
        });
        s.of("2 PAUSED: the customer", () -> {
            HelpDesk x = Desks.calm(1);
            x.pause(0);
            s.due("paused", x.stateOf(0), Desks.PAUSED);
            x.pass(10080);
            s.due("as long as it is not resumed", x.stateOf(0), Desks.PAUSED);
        });
        s.of("3 SOLVED", () -> {
            HelpDesk x = Desks.calm(1);
            x.solve(0);
            s.due("solved", x.stateOf(0), Desks.SOLVED);
        });
        s.of("4 TWIN: it is joined", () -> {
            HelpDesk x = Desks.ofEveryState();
            s.due("twin", x.stateOf(4), Desks.TWIN);
            s.unchanged(x, "no SOLVED root", d -> d.join(0, 3), HelpDesk.WRONG_STATE);
            s.unchanged(x, "no TWIN for a root", d -> d.join(1, 4), HelpDesk.WRONG_STATE);
            x.join(0, 1);
            s.due("its root becomes a TWIN: it has that one's root", x.rootOf(4), 1);
            x.solve(1);
            s.due("its root is SOLVED: it is no TWIN any more", x.stateOf(4), Desks.SOLVED);
        });
        s.of("A ticket has been answered once", () -> {
            HelpDesk x = Desks.calm(1);
            s.due("queued", x.answeredAt(0), HelpDesk.NONE);
            x.pass(1);
            s.due("in work", x.answeredAt(0), 0);
            x.pause(0);
            x.pass(5);
            x.resume(0);
            x.pass(5);
            s.due("in work a second time", x.answeredAt(0), 0);
        });
    }

    private void urgency() {
        s.of("The urgency order of tickets", () -> {
            HelpDesk x = new HelpDesk();
            x.addKind(10080, 101, 480, 0, 0, true);
            x.addKind(10080, 100, 480, 0, 0, false);
            x.report(0, 1, 1, 2);
            x.report(1, 1, 1, 2);
            x.report(1, 1, 1, 2);
            x.report(0, 1, 1, 3);
            s.due("the higher priority", x.nextTicket(0), 3);
            x.setPriority(3, 1);
            s.due("of equal ones the lower difference; of equal ones the lower number", x.nextTicket(0), 1);
            x.pass(1);
            s.due("equal differences", x.nextTicket(0), 0);
            x.setPriority(0, 0);
            x.pass(200);
            x.setPriority(0, 2);
            s.due("a difference below 0", x.nextTicket(0), 0);
            x.solve(0);
            x.solve(3);
            x.pause(1);
            s.due("the next number", x.nextTicket(0), 2);
            HelpDesk y = Desks.open(10080, 7, 480, 0, 0);
            y.addKind(10080, 5, 480, 0, 0, true);
            y.setAgents(0, 0);
            y.report(0, 1, 1, 1);
            y.report(1, 1, 1, 1);
            y.pass(100);
            s.due("the lower of two differences below 0", y.nextTicket(0), 1);
            y.report(1, 1, 1, 1);
            s.due("of two differences below 0 and one above", y.nextTicket(0), 1);
        });
    }

    private void errors() {
        s.under("ERRORS");
        s.of("Unless stated otherwise a method that returns an error changes nothing.", () -> {
            HelpDesk x = Desks.ofEveryState();
            x.appendText(0x70617373);
            s.unchanged(x, "setDay", d -> d.setDay(7, 0, 0), HelpDesk.OUT_OF_RANGE);
            s.unchanged(x, "addKind", d -> d.addKind(0, 0, 0, 0, 0, true), HelpDesk.OUT_OF_RANGE);
            s.unchanged(x, "setAgents", d -> d.setAgents(0, 10), HelpDesk.OUT_OF_RANGE);
            s.unchanged(x, "report", d -> d.report(1, 0, 0, 0), HelpDesk.NO_SUCH_KIND);
            s.unchanged(x, "pause", d -> d.pause(2), HelpDesk.WRONG_STATE);
            s.unchanged(x, "resume", d -> d.resume(1), HelpDesk.WRONG_STATE);
            s.unchanged(x, "climb", d -> d.climb(6), HelpDesk.WRONG_STATE);
            s.unchanged(x, "solve", d -> d.solve(3), HelpDesk.WRONG_STATE);
            s.unchanged(x, "reopen", d -> d.reopen(5), HelpDesk.WRONG_STATE);
            s.unchanged(x, "join", d -> d.join(0, 0), HelpDesk.WRONG_STATE);
            s.unchanged(x, "part", d -> d.part(0), HelpDesk.WRONG_STATE);
            s.unchanged(x, "setPriority", d -> d.setPriority(0, 4), HelpDesk.OUT_OF_RANGE);
            s.unchanged(x, "pass", d -> d.pass(0), HelpDesk.OUT_OF_RANGE);
            s.unchanged(x, "truncateText", d -> d.truncateText(5), HelpDesk.OUT_OF_RANGE);
            for (int i = 1; i < 100; i++) {
                x.appendText(0x3b3b3b3b);
            }
            s.unchanged(x, "appendText", d -> d.appendText(0x3b3b3b3b), HelpDesk.FULL);
        });
        s.nothingIn("NO_SUCH_TICKET, NO_SUCH_KIND, OUT_OF_RANGE, WRONG_STATE, FULL.");
        s.of("If several errors apply", () -> {
            HelpDesk x = Desks.ofEveryState();
            Desks.fillHistory(x);
            s.due("ticket before range and full", x.setPriority(7, 4), HelpDesk.NO_SUCH_TICKET);
            s.due("ticket before state and full", x.join(3, 7), HelpDesk.NO_SUCH_TICKET);
            s.due("a root that is not there", x.join(7, 3), HelpDesk.NO_SUCH_TICKET);
            s.due("kind before range and full", x.report(1, 100, 0, 0), HelpDesk.NO_SUCH_KIND);
            s.due("range before state and full", x.setPriority(3, 4), HelpDesk.OUT_OF_RANGE);
            s.due("range before full", x.report(0, 100, 0, 0), HelpDesk.OUT_OF_RANGE);
            s.due("range before full", x.setDay(7, 0, 0), HelpDesk.OUT_OF_RANGE);
            s.due("range before full", x.setAgents(4, 0), HelpDesk.OUT_OF_RANGE);
            s.due("state before full", x.setPriority(3, 3), HelpDesk.WRONG_STATE);
            s.due("state before full", x.pause(2), HelpDesk.WRONG_STATE);
            s.due("full alone", x.pause(0), HelpDesk.FULL);
        });
    }

    private void constants() {
        s.under("ERRORS");
        s.nothingIn("The constants:", "The constructor and the methods follow");
        s.of("- `NONE = -1`", () -> s.due("NONE", HelpDesk.NONE, -1));
        s.of("- `NO_SUCH_TICKET = -2`", () -> {
            s.due("NO_SUCH_TICKET", HelpDesk.NO_SUCH_TICKET, -2);
            s.due("an empty desk", new HelpDesk().stateOf(0), -2);
        });
        s.of("- `NO_SUCH_KIND = -3`", () -> {
            s.due("NO_SUCH_KIND", HelpDesk.NO_SUCH_KIND, -3);
            s.due("an empty desk", new HelpDesk().report(0, 0, 0, 0), -3);
        });
        s.of("- `OUT_OF_RANGE = -4`", () -> {
            s.due("OUT_OF_RANGE", HelpDesk.OUT_OF_RANGE, -4);
            s.due("an empty desk", new HelpDesk().logTime(0), -4);
        });
        s.of("- `WRONG_STATE = -5`", () -> {
            s.due("WRONG_STATE", HelpDesk.WRONG_STATE, -5);
            s.due("a queued ticket", Desks.calm(1).resume(0), -5);
        });
        s.of("- `FULL = -6`", () -> {
            s.due("FULL", HelpDesk.FULL, -6);
            HelpDesk x = Desks.calm(60);
            s.due("another ticket", x.report(0, 1, 1, 1), -6);
            for (int kind = 1; kind < 6; kind++) {
                x.addKind(1, 1, 1, 0, 0, true);
            }
            s.due("another kind", x.addKind(1, 1, 1, 0, 0, true), -6);
            Desks.fillHistory(x);
            s.due("another change", x.setDay(6, 0, 0), -6);
            for (int i = 0; i < 100; i++) {
                x.appendText(0);
            }
            s.due("another byte", x.appendText(0), -6);
        });
        s.of("- `SYNTAX_ERROR = -7`", () -> {
            s.due("SYNTAX_ERROR", HelpDesk.SYNTAX_ERROR, -7);
            s.due("a text", Desks.run(new HelpDesk(), ";"), -7);
        });
    }

    private void notPromised() {
        s.under("Not promised");
        s.nothingIn("How the state is held", "Use of one object", "Nothing is promised");
    }
}
