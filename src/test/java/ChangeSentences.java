/** The promises 11 to 19: the changes of tickets. */
final class ChangeSentences extends Group {
    private static final int NO_TICKET = HelpDesk.NO_SUCH_TICKET;
    private static final int WRONG_STATE = HelpDesk.WRONG_STATE;

    ChangeSentences(Sentences sentences) {
        super(sentences);
    }

    @Override
    void test() {
        report();
        reportAnswers();
        pause();
        resume();
        climb();
        solve();
        reopen();
        reopenedClocks();
        reopenAnswers();
        join();
        joinAnswers();
        part();
        setPriority();
        setPriorityAnswers();
    }

    /** The first and the last of sixty tickets, each brought first into a state that allows the change. */
    private void ticketNumbers(Call before, Call change, String sentence) {
        s.of(sentence, () -> {
            for (int ticket : new int[] {0, 59}) {
                HelpDesk x = Desks.calm(60);
                before.of(x, ticket);
                s.due("ticket " + ticket, change.of(x, ticket) >= 0, true);
            }
        });
    }

    private void ticketNumbers(Call before, Call change) {
        ticketNumbers(before, change, "- `ticket`: the number of a ticket");
    }

    /** Of the seven tickets of ofEveryState these alone allow the change. */
    private void states(Call change, int... allowed) {
        for (int ticket = 0; ticket < 7; ticket++) {
            boolean allows = false;
            for (int a : allowed) {
                allows |= a == ticket;
            }
            HelpDesk x = Desks.ofEveryState();
            int t = ticket;
            if (allows) {
                s.due("ticket " + ticket, change.of(x, ticket) >= 0, true);
            } else {
                s.unchanged(x, "ticket " + ticket, d -> change.of(d, t), WRONG_STATE);
                Desks.fillHistory(x);
                s.unchanged(x, "ticket " + ticket + ", before full", d -> change.of(d, t), WRONG_STATE);
            }
        }
    }

    /** The change is the two hundredth of the history, or the one behind it. */
    private void full(Call change, int ticket) {
        s.of("FULL", () -> {
            HelpDesk x = Desks.ofEveryState();
            for (int i = x.historyLength(); i < 199; i++) {
                x.setDay(6, 0, 0);
            }
            s.due("the two hundredth change", change.of(x, ticket) >= 0, true);
            s.due("history", x.historyLength(), 200);
            HelpDesk y = Desks.ofEveryState();
            Desks.fillHistory(y);
            s.unchanged(y, "one more", d -> change.of(d, ticket), HelpDesk.FULL);
        });
    }

    private void lastEvent(HelpDesk x, int type, int ticket, int detail) {
        int i = x.logSize() - 1;
        s.due("type of the event", x.logType(i), type);
        s.due("ticket of the event", x.logTicket(i), ticket);
        s.due("detail of the event", x.logDetail(i), detail);
        s.due("time of the event", x.logTime(i), x.now());
    }

    private void report() {
        s.under("Promise 11: report");
        s.of("Reports a new ticket at the present time", () -> {
            HelpDesk x = Desks.calm(0);
            x.report(0, 1, 1, 1);
            x.pass(10080);
            x.report(0, 1, 1, 1);
            s.due("at the first time", x.reportedAt(0), 0);
            s.due("at the last time", x.reportedAt(1), 10080);
            lastEvent(x, 0, 1, 0);
            alters("report", (d, kind) -> d.report(kind, 3, 3, 3), 1);
        });
        s.of("- `kind`: the number of a kind", () -> {
            HelpDesk x = new HelpDesk();
            for (int kind = 0; kind < 6; kind++) {
                x.addKind(1, 1, 1, 0, 0, true);
            }
            s.due("kind 0", x.report(0, 1, 1, 1), 0);
            s.due("kind 5", x.report(5, 1, 1, 1), 1);
            lastEvent(x, 0, 1, 5);
        });
        s.of("- `customer`: 0 to 99", () -> range(1, 99));
        s.of("- `subject`: 0 to 999", () -> range(2, 999));
        s.of("- `priority`: 0 to 3", () -> range(3, 3));
    }

    private void range(int argument, int most) {
        HelpDesk x = Desks.calm(0);
        s.due("0", report(x, argument, 0), 0);
        s.due("" + most, report(x, argument, most), 1);
        for (int number : Desks.beside(0, most)) {
            s.unchanged(x, "report with " + number, d -> report(d, argument, number), HelpDesk.OUT_OF_RANGE);
        }
    }

    private static int report(HelpDesk x, int argument, int number) {
        int[] w = {0, 1, 1, 1};
        w[argument] = number;
        return x.report(w[0], w[1], w[2], w[3]);
    }

    private void reportAnswers() {
        s.of("Returns the number of the ticket", () -> {
            HelpDesk x = Desks.calm(0);
            for (int t = 0; t < 60; t++) {
                s.due("ticket", x.report(0, 1, 1, 1), t);
            }
        });
        s.of("NO_SUCH_KIND", () -> {
            s.unchanged(new HelpDesk(), "kind 0 of none", d -> d.report(0, 1, 1, 1), HelpDesk.NO_SUCH_KIND);
            HelpDesk x = Desks.calm(60);
            for (int kind : Desks.beside(0, 0)) {
                s.unchanged(x, "kind " + kind, d -> d.report(kind, 1, 1, 1), HelpDesk.NO_SUCH_KIND);
                s.unchanged(x, "before range", d -> d.report(kind, 100, 1000, 4), HelpDesk.NO_SUCH_KIND);
            }
        });
        s.of("OUT_OF_RANGE", () -> {
            HelpDesk x = Desks.calm(0);
            s.unchanged(x, "all too small", d -> d.report(0, -1, -1, -1), HelpDesk.OUT_OF_RANGE);
            s.unchanged(x, "all too large", d -> d.report(0, 100, 1000, 4), HelpDesk.OUT_OF_RANGE);
            Desks.report(x, 60);
            s.unchanged(x, "before full", d -> d.report(0, 100, 1, 1), HelpDesk.OUT_OF_RANGE);
        });
        s.of("FULL if there are 60 tickets, or if the history is full", () -> {
            HelpDesk x = Desks.calm(59);
            s.due("the sixtieth", x.report(0, 1, 1, 1), 59);
            s.unchanged(x, "the sixty-first", d -> d.report(0, 1, 1, 1), HelpDesk.FULL);
            HelpDesk y = Desks.calm(0);
            for (int i = y.historyLength(); i < 199; i++) {
                y.setDay(6, 0, 0);
            }
            s.due("the two hundredth change", y.report(0, 1, 1, 1), 0);
            s.unchanged(y, "one more", d -> d.report(0, 1, 1, 1), HelpDesk.FULL);
        });
    }

    private void pause() {
        s.under("Promise 12: pause");
        s.of("Pauses a ticket that is QUEUED or IN WORK", () -> {
            HelpDesk x = Desks.ofEveryState();
            x.pause(0);
            s.due("queued", x.stateOf(0), Desks.PAUSED);
            lastEvent(x, 2, 0, 0);
            x.pause(1);
            s.due("in work", x.stateOf(1), Desks.PAUSED);
            s.due("its agent is free", x.busyAgents(0), 0);
            lastEvent(x, 2, 1, 0);
            for (int t : new int[] {0, 1, 6, 7, 9}) {
                alters("pause " + t, HelpDesk::pause, t, new int[][] {{t, Desks.STATE, Desks.PAUSED}});
            }
        });
        s.of("Its progress stays", () -> {
            HelpDesk x = Desks.ofEveryState();
            x.pause(1);
            s.due("progress", x.progress(1), 7);
            x.pass(100);
            s.due("progress", x.progress(1), 7);
        });
        ticketNumbers((x, t) -> 0, HelpDesk::pause);
        s.of("Returns its resolve clock", () -> {
            HelpDesk x = Desks.ofEveryState();
            s.due("in work", x.pause(1), 7);
            s.due("new", x.pause(x.report(0, 1, 1, 1)), 0);
            HelpDesk y = Desks.calm(1);
            y.pass(240);
            y.climb(0);
            y.pass(240);
            y.climb(0);
            y.setAgents(2, 0);
            y.pass(9600);
            s.due("a whole week", y.pause(0), 10080);
        });
        noSuchTicket(HelpDesk::pause);
        s.of("WRONG_STATE", () -> states(HelpDesk::pause, 0, 1, 6));
        full(HelpDesk::pause, 0);
    }

    private void resume() {
        s.under("Promise 13: resume");
        s.of("Makes a ticket that is PAUSED QUEUED", () -> {
            alters("resume", HelpDesk::resume, 2, new int[][] {{2, Desks.STATE, Desks.QUEUED}});
            HelpDesk x = Desks.calm(1);
            x.pass(3);
            x.pause(0);
            x.pass(3);
            x.resume(0);
            s.due("state", x.stateOf(0), Desks.QUEUED);
            s.due("progress", x.progress(0), 3);
            lastEvent(x, 3, 0, 0);
        });
        ticketNumbers(HelpDesk::pause, HelpDesk::resume);
        s.of("Returns its resolve clock", () -> {
            HelpDesk x = Desks.calm(1);
            x.pass(9);
            x.pause(0);
            x.pass(9);
            s.due("it rested", x.resume(0), 9);
            s.due("never queued for a minute", Desks.ofEveryState().resume(2), 0);
        });
        noSuchTicket(HelpDesk::resume);
        s.of("WRONG_STATE", () -> states(HelpDesk::resume, 2));
        full(HelpDesk::resume, 2);
    }

    private void climb() {
        s.under("Promise 14: climb");
        s.of("Lets a ticket climb that is QUEUED or IN WORK and whose level is below 3", () -> {
            for (int t : new int[] {0, 1, 7, 9}) {
                alters("climb " + t, HelpDesk::climb, t, new int[][] {{t, Desks.STATE, Desks.QUEUED},
                    {t, Desks.LEVEL, 1}, {t, Desks.PROGRESS, 0}});
            }
            HelpDesk x = Desks.ofEveryState();
            x.climb(1);
            s.due("in work before", x.stateOf(1), Desks.QUEUED);
            s.due("its level", x.levelOf(1), 1);
            s.due("its progress", x.progress(1), 0);
            lastEvent(x, 4, 1, 1);
            x.climb(0);
            x.climb(0);
            s.due("below 3", x.levelOf(0), 2);
            x.climb(0);
            s.due("now 3", x.levelOf(0), 3);
            lastEvent(x, 4, 0, 3);
            s.unchanged(x, "no further", d -> d.climb(0), WRONG_STATE);
        });
        ticketNumbers((x, t) -> 0, HelpDesk::climb);
        s.of("Returns its new level", () -> {
            HelpDesk x = Desks.calm(1);
            for (int level = 1; level < 4; level++) {
                s.due("level", x.climb(0), level);
            }
        });
        noSuchTicket(HelpDesk::climb);
        s.of("WRONG_STATE (also if its level is 3)", () -> {
            states(HelpDesk::climb, 0, 1);
            HelpDesk x = Desks.ofEveryState();
            x.setAgents(3, 1);
            x.pass(1);
            s.due("level 3, in work", x.stateOf(6), Desks.IN_WORK);
            s.unchanged(x, "level 3, in work", d -> d.climb(6), WRONG_STATE);
        });
        full(HelpDesk::climb, 0);
    }

    private void solve() {
        s.under("Promise 15: solve");
        s.of("Makes a ticket that is QUEUED, IN WORK or PAUSED, and its twins, SOLVED", () -> {
            int now = Desks.mixed().now();
            for (int t : new int[] {1, 2, 6, 7, 9}) {
                alters("solve " + t, HelpDesk::solve, t, new int[][] {{t, Desks.STATE, Desks.SOLVED},
                    {t, Desks.SOLVED_AT, now}});
            }
            alters("solve 0", HelpDesk::solve, 0, new int[][] {{0, Desks.STATE, Desks.SOLVED},
                {0, Desks.SOLVED_AT, now}, {4, Desks.STATE, Desks.SOLVED}, {4, Desks.SOLVED_AT, now},
                {8, Desks.STATE, Desks.SOLVED}, {8, Desks.SOLVED_AT, now}});
            HelpDesk x = Desks.ofEveryState();
            x.join(1, 2);
            x.solve(2);
            x.solve(0);
            x.solve(6);
            for (int t = 0; t < 7; t++) {
                s.due("state of " + t, x.stateOf(t), Desks.SOLVED);
                s.due("time of " + t, x.solvedAt(t), t == 3 || t == 5 ? 0 : 7);
            }
            lastEvent(x, 5, 6, 0);
            s.due("the agent is free", x.busyAgents(0), 0);
        });
        ticketNumbers((x, t) -> 0, HelpDesk::solve);
        s.of("Returns the number of tickets that were solved", () -> {
            HelpDesk x = Desks.ofEveryState();
            s.due("without twins", x.solve(1), 1);
            s.due("with a twin", x.solve(0), 2);
            HelpDesk y = Desks.calm(60);
            for (int t = 0; t < 59; t++) {
                y.join(t, 59);
            }
            s.due("with 59 twins", y.solve(59), 60);
        });
        noSuchTicket(HelpDesk::solve);
        s.of("WRONG_STATE", () -> states(HelpDesk::solve, 0, 1, 2, 6));
        full(HelpDesk::solve, 0);
    }

    private void reopen() {
        s.under("Promise 16: reopen");
        s.of("Makes a SOLVED ticket that has no root QUEUED again", () -> {
            alters("reopen", HelpDesk::reopen, 3, new int[][] {{3, Desks.STATE, Desks.QUEUED},
                {3, Desks.PROGRESS, 0}, {3, Desks.SOLVED_AT, HelpDesk.NONE}, {5, Desks.STATE, Desks.TWIN},
                {5, Desks.SOLVED_AT, HelpDesk.NONE}});
            HelpDesk x = Desks.ofEveryState();
            x.reopen(3);
            s.due("state", x.stateOf(3), Desks.QUEUED);
            lastEvent(x, 10, 3, 0);
            s.unchanged(x, "again", d -> d.reopen(3), WRONG_STATE);
            s.unchanged(x, "its twin", d -> d.reopen(5), WRONG_STATE);
            HelpDesk y = Desks.calm(1);
            y.solve(0);
            y.pass(10080);
            s.due("after a week", y.reopen(0), 1);
        });
        s.of("The tickets that were its twins when it was solved become TWINs of it again", () -> {
            HelpDesk x = Desks.calm(6);
            x.join(1, 0);
            x.join(2, 0);
            x.join(3, 4);
            x.part(2);
            x.solve(0);
            x.reopen(0);
            s.due("its twin", x.stateOf(1), Desks.TWIN);
            s.due("its root", x.rootOf(1), 0);
            s.due("not solved any more", x.solvedAt(1), HelpDesk.NONE);
            s.due("one that had parted", x.stateOf(2), Desks.QUEUED);
            s.due("another one's twin", x.rootOf(3), 4);
            HelpDesk y = Desks.calm(60);
            for (int t = 1; t < 60; t++) {
                y.join(t, 0);
            }
            y.solve(0);
            y.reopen(0);
            s.due("all sixty", y.twins(0), (1L << 60) - 2);
            s.due("the last", y.stateOf(59), Desks.TWIN);
        });
    }

    private void reopenedClocks() {
        s.of("Its level and its clocks stay, its progress and its level clock become 0", () -> {
            HelpDesk x = Desks.open(10080, 10080, 480, 0, 100);
            x.report(0, 1, 1, 1);
            x.setAgents(0, 0);
            x.pass(100);
            x.pass(50);
            x.setAgents(1, 0);
            x.pass(60);
            s.due("50 minutes in work", x.progress(0), 50);
            x.solve(0);
            x.pass(20);
            x.reopen(0);
            s.due("level", x.levelOf(0), 1);
            s.due("response clock", x.responseClock(0), 100);
            s.due("resolve clock", x.resolveClock(0), 210);
            s.due("progress", x.progress(0), 0);
            s.due("solved", x.solvedAt(0), HelpDesk.NONE);
            s.due("answered", x.answeredAt(0), 100);
            x.pass(99);
            s.due("level clock", x.levelOf(0), 1);
            x.pass(1);
            s.due("level clock", x.levelOf(0), 2);
            s.due("resolve clock", x.resolveClock(0), 310);
        });
        s.of("Breaches stay recorded", () -> {
            HelpDesk x = Desks.open(3, 6, 480, 0, 0);
            x.setAgents(0, 0);
            Desks.report(x, 2);
            x.join(1, 0);
            x.pass(7);
            x.solve(0);
            x.reopen(0);
            s.due("response", x.responseBreaches(0), 2);
            s.due("resolve", x.resolveBreaches(0), 2);
            x.pass(9);
            s.due("and happen once", x.responseBreaches(0) + x.resolveBreaches(0), 4);
            s.due("without a further event", x.logSize(), 3 + 4 + 3);
        });
    }

    private void reopenAnswers() {
        ticketNumbers(HelpDesk::solve, HelpDesk::reopen);
        s.of("Returns the number of tickets that are not SOLVED any more", () -> {
            HelpDesk x = Desks.ofEveryState();
            x.solve(6);
            s.due("without twins", x.reopen(6), 1);
            s.due("with a twin", x.reopen(3), 2);
            HelpDesk y = Desks.calm(60);
            for (int t = 0; t < 59; t++) {
                y.join(t, 59);
            }
            y.solve(59);
            s.due("with 59 twins", y.reopen(59), 60);
        });
        noSuchTicket(HelpDesk::reopen);
        s.of("WRONG_STATE (also if it has a root)", () -> states(HelpDesk::reopen, 3));
        full(HelpDesk::reopen, 3);
    }

    private void join() {
        s.under("Promise 17: join");
        s.of("Joins a ticket to a root: it becomes a TWIN", () -> {
            int ofZero = 1 << 4 | 1 << 8;
            int[] alone = {0, 1, 2, 6, 7, 9};
            for (int root : alone) {
                for (int t : alone) {
                    if (t != root && t != 0) {
                        alters("join " + t + " to " + root, (d, ticket) -> d.join(ticket, root), t, new int[][] {
                            {t, Desks.STATE, Desks.TWIN}, {t, Desks.ROOT, root},
                            {root, Desks.TWINS, 1 << t | (root == 0 ? ofZero : 0)}});
                    }
                }
                if (root != 0) {
                    alters("join 0 to " + root, (d, ticket) -> d.join(ticket, root), 0, new int[][] {
                        {0, Desks.STATE, Desks.TWIN}, {0, Desks.ROOT, root}, {0, Desks.TWINS, 0},
                        {4, Desks.ROOT, root}, {8, Desks.ROOT, root}, {root, Desks.TWINS, 1 | ofZero}});
                }
            }
            HelpDesk x = Desks.ofEveryState();
            x.join(1, 2);
            s.due("state", x.stateOf(1), Desks.TWIN);
            s.due("root", x.rootOf(1), 2);
            s.due("progress", x.progress(1), 7);
            s.due("its agent is free", x.busyAgents(0), 0);
            s.due("the root's state", x.stateOf(2), Desks.PAUSED);
            lastEvent(x, 6, 1, 2);
            HelpDesk y = Desks.calm(1);
            y.addKind(0, 0, 1, 3, 1, false);
            y.setAgents(0, 0);
            y.pass(10000);
            y.report(1, 99, 999, 3);
            y.climb(1);
            s.due("nothing is alike, and days lie between", y.join(1, 0), 1);
            s.due("the other way round", y.part(1) + y.join(0, 1), 1);
        });
        s.of("Its own twins become twins of the new root, too (without events)", () -> {
            HelpDesk x = Desks.calm(60);
            for (int t = 1; t < 59; t++) {
                x.join(t, 0);
            }
            int events = x.logSize();
            x.join(0, 59);
            s.due("all but the root", x.twins(59), (1L << 59) - 1);
            s.due("no twins any more", x.twins(0), 0);
            s.due("still a twin", x.stateOf(58), Desks.TWIN);
            s.due("of the new root", x.rootOf(58), 59);
            s.due("one event", x.logSize(), events + 1);
            lastEvent(x, 6, 0, 59);
            HelpDesk y = Desks.calm(3);
            y.join(0, 2);
            y.join(2, 1);
            s.due("ticket 0 as the own twin", y.rootOf(0), 1);
        });
        Call toTheOther = (x, t) -> x.join(t, 59 - t);
        ticketNumbers((x, t) -> 0, toTheOther, "- `ticket`: the number of a ticket that is QUEUED, IN WORK or PAUSED");
        ticketNumbers((x, t) -> 0, (x, t) -> x.join(59 - t, t), "- `root`: the number of another ticket that is");
    }

    private void joinAnswers() {
        s.of("Returns the number of twins of the root then", () -> {
            HelpDesk x = Desks.calm(60);
            s.due("one", x.join(1, 0), 1);
            s.due("one", x.join(3, 2), 1);
            s.due("with its own twin", x.join(2, 0), 3);
            for (int t = 4; t < 59; t++) {
                s.due("one more", x.join(t, 0), t);
            }
            s.due("59", x.join(0, 59), 59);
        });
        noSuchTicket((x, t) -> {
            int answer = x.join(0, t);
            s.due("the other way round", x.join(t, 0), answer);
            s.due("to itself", x.join(t, t), answer);
            s.due("of a solved one", x.join(3, t), NO_TICKET);
            return answer;
        });
        s.of("WRONG_STATE (also if both are the same)", () -> {
            states((x, t) -> x.join(t, t == 6 ? 2 : 6), 0, 1, 2, 6);
            states((x, t) -> x.join(t == 6 ? 2 : 6, t), 0, 1, 2, 6);
            states((x, t) -> x.join(t, t));
        });
        full((x, t) -> x.join(t, 2), 0);
    }

    private void part() {
        s.under("Promise 18: part");
        s.of("Makes a TWIN an own ticket again: it becomes QUEUED at its level; its progress stays", () -> {
            for (int t : new int[] {4, 8}) {
                alters("part " + t, HelpDesk::part, t, new int[][] {{t, Desks.STATE, Desks.QUEUED},
                    {t, Desks.ROOT, HelpDesk.NONE}, {0, Desks.TWINS, 1 << 12 - t}});
            }
            HelpDesk x = Desks.calm(2);
            x.climb(1);
            x.climb(1);
            x.pass(4);
            x.join(1, 0);
            x.pass(4);
            x.part(1);
            s.due("state", x.stateOf(1), Desks.QUEUED);
            s.due("level", x.levelOf(1), 2);
            s.due("progress", x.progress(1), 4);
            s.due("no root", x.rootOf(1), HelpDesk.NONE);
            s.due("no twin", x.twins(0), 0);
            lastEvent(x, 7, 1, 0);
            HelpDesk y = Desks.ofEveryState();
            y.join(0, 2);
            y.part(0);
            s.due("its former twin stays with the root", y.rootOf(4), 2);
        });
        s.of("- `ticket`: the number of a ticket that is a TWIN", () -> {
            HelpDesk x = Desks.calm(60);
            x.join(0, 59);
            s.due("ticket 0", x.part(0), 59);
            x.join(59, 0);
            s.due("ticket 59", x.part(59), 0);
        });
        s.of("Returns its former root", () -> {
            HelpDesk x = Desks.ofEveryState();
            s.due("the root", x.part(4), 0);
            x.join(4, 0);
            x.join(0, 6);
            s.due("the root of its root", x.part(4), 6);
        });
        noSuchTicket(HelpDesk::part);
        s.of("WRONG_STATE", () -> {
            states(HelpDesk::part, 4);
            HelpDesk x = Desks.ofEveryState();
            x.part(4);
            s.unchanged(x, "again", d -> d.part(4), WRONG_STATE);
        });
        full(HelpDesk::part, 4);
    }

    private void setPriority() {
        s.under("Promise 19: setPriority");
        s.of("Sets the priority of a ticket that is not SOLVED", () -> {
            for (int t : new int[] {0, 1, 2, 4, 6, 7, 8, 9}) {
                alters("setPriority " + t, (d, ticket) -> d.setPriority(ticket, 3), t,
                        new int[][] {{t, Desks.PRIORITY, 3}});
            }
            HelpDesk x = Desks.ofEveryState();
            int events = x.logSize();
            for (int t : new int[] {0, 1, 2, 4, 6}) {
                x.setPriority(t, 2);
                s.due("priority of " + t, x.priorityOf(t), 2);
            }
            s.due("no events", x.logSize(), events);
            s.due("the ticket in work stays so", x.stateOf(1), Desks.IN_WORK);
        });
        ticketNumbers((x, t) -> 0, (x, t) -> x.setPriority(t, 3));
        s.of("- `priority`: 0 to 3", () -> {
            HelpDesk x = Desks.calm(1);
            s.due("0", x.setPriority(0, 0), 1);
            s.due("3", x.setPriority(0, 3), 0);
            s.due("now", x.priorityOf(0), 3);
            for (int priority : Desks.beside(0, 3)) {
                s.unchanged(x, "to " + priority, d -> d.setPriority(0, priority), HelpDesk.OUT_OF_RANGE);
            }
        });
    }

    private void setPriorityAnswers() {
        s.of("Returns the previous priority", () -> {
            HelpDesk x = Desks.calm(1);
            int previous = 1;
            for (int priority : new int[] {0, 3, 3, 2, 1}) {
                s.due("previous", x.setPriority(0, priority), previous);
                previous = priority;
            }
        });
        noSuchTicket((x, t) -> {
            int answer = x.setPriority(t, 4);
            s.due("in range", x.setPriority(t, 3), answer);
            return answer;
        });
        s.of("OUT_OF_RANGE", () -> {
            HelpDesk x = Desks.ofEveryState();
            s.unchanged(x, "before the state", d -> d.setPriority(3, 4), HelpDesk.OUT_OF_RANGE);
            Desks.fillHistory(x);
            s.unchanged(x, "before full", d -> d.setPriority(0, -1), HelpDesk.OUT_OF_RANGE);
        });
        s.of("WRONG_STATE", () -> states((x, t) -> x.setPriority(t, 3), 0, 1, 2, 4, 6));
        full((x, t) -> x.setPriority(t, 3), 0);
    }
}
