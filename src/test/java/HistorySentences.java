/** The sentences on the history and on replays. */
final class HistorySentences extends Group {
    HistorySentences(Sentences sentences) {
        super(sentences);
    }

    @Override
    void test() {
        s.under("HISTORY");
        changes();
        recorded();
        beginning();
        repeating();
        errorsInReplays();
        otherAgents();
    }

    private void changes() {
        s.of("These methods are called changes", () -> {
            HelpDesk x = Desks.calm(2);
            s.due("setDay and report", x.historyLength(), 3);
            x.setAgents(1, 1);
            s.due("setAgents", x.historyLength(), 4);
            x.pause(0);
            s.due("pause", x.historyLength(), 5);
            x.resume(0);
            s.due("resume", x.historyLength(), 6);
            x.climb(0);
            s.due("climb", x.historyLength(), 7);
            x.solve(0);
            s.due("solve", x.historyLength(), 8);
            x.reopen(0);
            s.due("reopen", x.historyLength(), 9);
            x.join(0, 1);
            s.due("join", x.historyLength(), 10);
            x.part(0);
            s.due("part", x.historyLength(), 11);
            x.setPriority(0, 1);
            s.due("setPriority", x.historyLength(), 12);
            Desks.run(x, "priority 0 1;part 0;");
            s.due("by a script, and none for an error", x.historyLength(), 13);
        });
    }

    private void recorded() {
        s.of("Every change without an error is recorded in the history with its time", () -> {
            HelpDesk x = Desks.open(5, 10080, 480, 0, 0);
            x.pass(100);
            x.report(0, 1, 1, 1);
            x.pass(5);
            s.due("reported five minutes ago", x.breachesWith(0, 0), 0);
            x.pass(1);
            s.due("six minutes ago", x.breachesWith(0, 0), 1);
            int changes = x.historyLength();
            x.report(1, 1, 1, 1);
            x.pause(1);
            x.setAgents(4, 1);
            x.resume(0);
            s.due("errors are not recorded", x.historyLength(), changes);
            for (int type = 0; type < 11; type++) {
                for (int time = 4; time < 16; time++) {
                    timeOfChange(type, time);
                }
            }
        });
        s.of("The history holds at most 200 changes", () -> {
            HelpDesk x = Desks.calm(1);
            for (int i = x.historyLength(); i < 199; i++) {
                x.setPriority(0, i % 4);
            }
            s.due("the two hundredth", x.pause(0), 0);
            s.due("full", x.historyLength(), 200);
            s.unchanged(x, "one more", d -> d.resume(0), HelpDesk.FULL);
            s.unchanged(x, "one that would change nothing", d -> d.setDay(6, 0, 0), HelpDesk.FULL);
            s.due("time passes all the same", x.pass(10080), 0);
        });
        s.of("(Kinds and the passing of time are not recorded.)", () -> {
            HelpDesk x = new HelpDesk();
            x.addKind(1, 1, 1, 0, 0, true);
            x.pass(10080);
            s.due("history", x.historyLength(), 0);
            HelpDesk y = Desks.calm(1);
            Desks.fillHistory(y);
            s.due("a kind, the history being full", y.addKind(1, 1, 1, 0, 0, true), 1);
            s.due("minutes, the history being full", y.pass(480), 1);
        });
    }

    /**
     * The clocks of ticket 0 hang on the time of a change, so with targets that they just reach, or just pass, a replay
     * tells whether it makes the change in that very minute. The types are those of the document's list of changes,
     * from 0, setDay, to 10, setPriority.
     */
    private void timeOfChange(int type, int time) {
        HelpDesk x = changedAt(type, time, 10080, 10080);
        int response = x.responseClock(0);
        int resolve = x.resolveClock(0);
        String what = "change " + type + " at " + time;
        s.due(what + ", targets that are reached", changedAt(type, time, response, resolve).breachesWith(3, 1), 0);
        s.due(what + ", targets that are passed",
                changedAt(type, time, Math.max(0, response - 1), Math.max(0, resolve - 1)).breachesWith(3, 1),
                Math.min(1, response) + Math.min(1, resolve));
    }

    private static HelpDesk changedAt(int type, int time, int response, int resolve) {
        HelpDesk x = new HelpDesk();
        x.addKind(response, resolve, 4, 0, 0, type != 0);
        x.addKind(10080, 10080, 4, 0, 0, true);
        if (type != 0) {
            x.setDay(0, 0, 1440);
        }
        x.setAgents(type == 1 ? 1 : 0, type == 10 ? 1 : 0);
        if (type != 2) {
            x.report(0, 1, 1, 0);
            for (int i = 0; i < 8; i++) {
                x.report(1, 1, 1, 1);
            }
        }
        before(x, type);
        x.pass(time - x.now());
        change(x, type);
        x.pass(60);
        return x;
    }

    /** Brings ticket 0 into a state that allows the change. */
    private static void before(HelpDesk x, int type) {
        if (type == 1) {
            x.climb(0);
        } else if (type == 4) {
            x.pass(3);
            x.pause(0);
        } else if (type == 7) {
            x.pass(3);
            x.solve(0);
        } else if (type == 8 || type == 9) {
            x.pause(1);
            x.pass(3);
        }
        if (type == 9) {
            x.join(0, 1);
        }
    }

    private static void change(HelpDesk x, int type) {
        switch (type) {
            case 0: x.setDay(0, 0, 1440); break;
            case 1: x.setAgents(1, 1); break;
            case 2: x.report(0, 1, 1, 0); break;
            case 3: x.pause(0); break;
            case 4: x.resume(0); break;
            case 5: x.climb(0); break;
            case 6: x.solve(0); break;
            case 7: x.reopen(0); break;
            case 8: x.join(0, 1); break;
            case 9: x.part(0); break;
            default: x.setPriority(0, 3);
        }
    }

    private void beginning() {
        s.of("A replay begins at time 0 with the first calendar", () -> {
            HelpDesk x = new HelpDesk();
            x.addKind(5, 10080, 480, 0, 0, false);
            x.report(0, 1, 1, 1);
            x.setAgents(1, 9);
            x.pass(545);
            s.due("five open minutes", x.breachesWith(0, 0), 0);
            x.pass(1);
            s.due("six open minutes of the first calendar", x.breachesWith(0, 0), 1);
            x.setDay(0, 0, 0);
            s.due("a calendar of later", x.breachesWith(0, 0), 1);
            s.due("no tickets of before", x.breachesWith(0, 1), 0);
            HelpDesk y = Desks.open(5, 10080, 480, 0, 0);
            Desks.report(y, 2);
            y.setPriority(0, 3);
            y.climb(0);
            y.pass(6);
            y.setAgents(0, 0);
            s.due("one agent at level 0", y.breachesWith(1, 0), 1);
            s.due("one agent at level 1", y.breachesWith(0, 0), 1);
            HelpDesk z = Desks.open(50, 5, 10, 0, 100);
            z.report(0, 1, 1, 1);
            z.pass(99);
            for (int i = 0; i < 3; i++) {
                s.due("nothing is left of another replay", z.breachesWith(0, 0), 2);
                s.due("nothing is left of the same replay", z.breachesWith(0, 0), 2);
                s.due("nothing is left of another replay", z.breachesWith(0, 1), 1);
                s.due("nothing is left of a forecast", z.breachesAhead() + z.breachesWith(0, 1), 1);
            }
            HelpDesk w = Desks.open(30, 15, 10, 0, 0);
            w.pass(1);
            Desks.report(w, 3);
            w.pass(15);
            w.join(2, 1);
            w.pass(35);
            for (int i = 0; i < 3; i++) {
                s.due("solved with its root", w.forecast(2), 21);
                s.due("no root of a forecast is left", w.breachesWith(0, 2), 1);
                s.due("no answer of a forecast is left", w.breachesWith(0, 0), 6);
                s.due("as it was", w.breachesWith(0, 1), 2);
            }
            for (int day = 0; day < 7; day++) {
                calendarOfBefore(day);
            }
        });
    }

    /** A day that is open now was closed in its first half hour, whatever was forecast or replayed before. */
    private void calendarOfBefore(int day) {
        HelpDesk x = new HelpDesk();
        x.addKind(5, 10080, 480, 0, 0, false);
        x.setAgents(0, 0);
        x.setDay(day, 540, 1020);
        x.pass(day * 1440 + 30);
        x.setDay(day, 0, 1440);
        x.report(0, 1, 1, 1);
        x.pass(6);
        for (int i = 0; i < 3; i++) {
            s.due("day " + day + ", six open minutes", x.breachesWith(0, 0), 1);
        }
        HelpDesk y = new HelpDesk();
        y.addKind(5, 10080, 480, 0, 0, false);
        y.report(0, 1, 1, 1);
        for (int before = 0; before < day; before++) {
            y.setDay(before, 0, 0);
        }
        y.pass(day * 1440 + 30);
        y.setDay(day, 0, 1440);
        s.due("day " + day + " ahead", y.forecast(0) != HelpDesk.NONE || y.breachesAhead() == 0, true);
        for (int i = 0; i < 3; i++) {
            s.due("day " + day + ", closed until now", y.breachesWith(0, 0), 0);
        }
    }

    private void repeating() {
        s.of("It makes the changes of the history at their times, in their order", () -> {
            HelpDesk x = Desks.open(5, 10080, 480, 0, 0);
            Desks.report(x, 2);
            x.join(0, 1);
            x.part(0);
            x.join(1, 0);
            x.pause(0);
            x.pass(5);
            s.due("a minute too early", x.breachesWith(0, 0), 0);
            x.pass(1);
            s.due("at the present time", x.breachesWith(0, 0), 2);
            x.solve(0);
            x.pass(9);
            s.due("solved at the time of the breach", x.breachesWith(0, 0), 2);
            HelpDesk y = Desks.open(5, 10080, 480, 0, 0);
            Desks.report(y, 1);
            y.pass(5);
            y.solve(0);
            y.pass(10075);
            s.due("solved a minute earlier", y.breachesWith(0, 0), 0);
            y.report(0, 1, 1, 1);
            s.due("reported at the last time", y.breachesWith(0, 0), 0);
            hoursInReplays();
            agentsInReplays();
            kindsAndPrioritiesInReplays();
            joinsInReplays();
        });
    }

    private void hoursInReplays() {
        HelpDesk x = new HelpDesk();
        x.addKind(5, 10080, 480, 0, 0, false);
        x.setDay(0, 600, 603);
        x.setDay(1, 10, 700);
        x.report(0, 1, 1, 1);
        x.pass(1440 + 10 + 2);
        s.due("five open minutes of two days", x.breachesWith(0, 0), 0);
        x.pass(1);
        s.due("six open minutes of two days", x.breachesWith(0, 0), 1);
        HelpDesk y = new HelpDesk();
        y.addKind(5, 10080, 480, 0, 0, false);
        y.setDay(0, 0, 0);
        y.report(0, 1, 1, 1);
        y.pass(1440 + 545);
        s.due("a closed day, five open minutes of the next", y.breachesWith(0, 0), 0);
        y.pass(1);
        s.due("a closed day, six open minutes of the next", y.breachesWith(0, 0), 1);
    }

    private void agentsInReplays() {
        for (int level = 1; level < 4; level++) {
            HelpDesk x = Desks.open(5, 10080, 480, 0, 0);
            Desks.report(x, 10);
            for (int t = 0; t < 10; t++) {
                for (int i = 0; i < level; i++) {
                    x.climb(t);
                }
            }
            for (int number = 0; number < 10; number += 3) {
                x.save(0);
                x.setAgents(level, number);
                x.pass(6);
                s.due(number + " agents at level " + level, x.breachesWith(0, 0), 10 - number);
                x.restore(0);
            }
        }
    }

    /** A twin's resolve clock rests while its root is paused, so all hangs on which root a ticket has. */
    private void joinsInReplays() {
        for (int ticket = 0; ticket < 4; ticket++) {
            for (int root = 0; root < 4; root++) {
                if (ticket != root) {
                    HelpDesk x = Desks.open(10080, 5, 480, 0, 0);
                    Desks.report(x, 4);
                    x.join(ticket, root);
                    x.pause(root);
                    x.pass(6);
                    s.due("two of four are late, " + ticket + " has the root " + root, x.breachesWith(0, 1), 2);
                    x.part(ticket);
                    x.pass(6);
                    s.due("parted, it is late, too", x.breachesWith(0, 1), 3);
                }
            }
        }
    }

    /** The one agent takes one ticket in time, and which one that is hangs on kinds and priorities. */
    private void kindsAndPrioritiesInReplays() {
        for (int hasty = 0; hasty < 2; hasty++) {
            for (int priority = 0; priority < 4; priority++) {
                for (int set = 0; set < 4; set++) {
                    HelpDesk x = Desks.open(10080, 500, 480, 0, 0);
                    x.addKind(5, 1000, 480, 0, 0, true);
                    x.report(hasty == 0 ? 1 : 0, 99, 999, 2);
                    x.report(hasty == 0 ? 0 : 1, 0, 4, priority);
                    x.setPriority(0, set);
                    x.pass(6);
                    boolean inTime = hasty == 0 ? set > priority : priority > set;
                    s.due("ticket " + hasty + " is in a hurry, priorities " + set + " and " + priority,
                            x.breachesWith(0, 1), inTime ? 0 : 1);
                }
            }
        }
    }

    private void errorsInReplays() {
        s.of("A change that would be an error in the replay is left out", () -> {
            leftOutPauseAndResume();
            leftOutClimb();
            leftOutSolve();
            leftOutReopen();
            leftOutJoin();
            leftOutPart();
            leftOutSetPriority();
        });
        s.of("(A report is never an error in a replay", () -> {
            HelpDesk x = Desks.open(5, 10080, 480, 0, 0);
            Desks.report(x, 60);
            x.setPriority(59, 3);
            x.pass(6);
            s.due("sixty tickets", x.breachesWith(0, 0), 60);
            s.due("nine of them answered", x.breachesWith(0, 9), 51);
            x.pause(59);
            x.solve(59);
            x.pass(6);
            s.due("the same numbers", x.breachesWith(0, 1), 59);
        });
        s.of("A replay does not change the desk", () -> {
            HelpDesk x = Desks.ofEveryState();
            s.unchanged(x, "breachesWith", d -> d.breachesWith(0, 9), 0);
            s.unchanged(x, "leastAgents", d -> d.leastAgents(3), 0);
        });
    }

    /**
     * Nobody works, so that all tickets wait; in a replay with an agent at level 0 ticket 0 is SOLVED at time 10,
     * and what is then done to it is an error there. What is due tells that case from the one that it was done.
     */
    private static HelpDesk unmanned(int response, int resolve, int climb, int tickets) {
        HelpDesk x = Desks.open(response, resolve, 10, 0, climb);
        x.setAgents(0, 0);
        x.setAgents(1, 0);
        Desks.report(x, tickets);
        return x;
    }

    private void leftOutPauseAndResume() {
        for (int resumed = 0; resumed < 2; resumed++) {
            HelpDesk x = unmanned(100, 100, 0, 2);
            x.climb(1);
            x.join(1, 0);
            x.pass(15);
            x.part(1);
            x.pause(1);
            if (resumed == 1) {
                x.resume(1);
            }
            x.pass(1000);
            s.due("pause, and resume " + resumed + ", as it was", x.breachesWith(0, 0), 3 + resumed);
            s.due("pause, and resume " + resumed + ", of a solved one", x.breachesWith(0, 1), 0);
        }
    }

    private void leftOutClimb() {
        HelpDesk x = unmanned(100, 100, 0, 1);
        x.pass(15);
        x.climb(0);
        x.pass(1000);
        s.due("climb, as it was", x.breachesWith(0, 0), 2);
        s.due("climb of a solved one", x.breachesWith(0, 1), 0);
    }

    private void leftOutSolve() {
        HelpDesk x = unmanned(1000, 15, 0, 2);
        x.join(1, 0);
        x.pass(20);
        x.part(1);
        x.solve(0);
        x.reopen(0);
        x.solve(1);
        x.pass(1000);
        s.due("solve, as it was", x.breachesWith(0, 0), 3);
        s.due("solve of a twin, whose clock runs with its root's", x.breachesWith(0, 1), 2);
    }

    private void leftOutReopen() {
        HelpDesk x = Desks.open(120, 10080, 10, 0, 100);
        x.report(0, 1, 1, 1);
        x.pass(50);
        x.reopen(0);
        x.pass(1000);
        s.due("reopen of a ticket that is not solved: it climbs at 100 and is taken", x.breachesWith(0, 0), 0);
    }

    private void leftOutJoin() {
        HelpDesk x = unmanned(100, 100, 0, 2);
        x.climb(1);
        x.pass(15);
        x.join(1, 0);
        x.pass(1000);
        s.due("join, as it was", x.breachesWith(0, 0), 4);
        s.due("join to a solved one", x.breachesWith(0, 1), 2);
        HelpDesk y = unmanned(100, 100, 0, 2);
        y.climb(1);
        y.pass(15);
        y.join(0, 1);
        y.pass(1000);
        s.due("join of a solved one", y.breachesWith(0, 1), 2);
    }

    private void leftOutPart() {
        HelpDesk x = unmanned(100, 100, 0, 2);
        x.climb(1);
        x.join(1, 0);
        x.pass(15);
        x.part(1);
        x.pass(1000);
        s.due("part, as it was", x.breachesWith(0, 0), 4);
        s.due("part of a solved one", x.breachesWith(0, 1), 0);
    }

    private void leftOutSetPriority() {
        HelpDesk x = unmanned(5, 10080, 0, 1);
        x.pass(15);
        x.setPriority(0, 3);
        x.solve(0);
        x.reopen(0);
        x.report(0, 1, 1, 2);
        x.pass(1000);
        s.due("setPriority of a solved one, which waits when reopened", x.breachesWith(0, 1), 0);
    }

    private void otherAgents() {
        s.of("In a replay for a level with a number of agents", () -> {
            HelpDesk x = Desks.open(5, 10080, 480, 0, 0);
            Desks.report(x, 4);
            x.setAgents(0, 2);
            x.setAgents(1, 2);
            x.climb(2);
            x.climb(3);
            x.pass(6);
            x.setAgents(0, 9);
            s.due("as it was", x.breachesWith(3, 0), 0);
            s.due("one from the beginning", x.breachesWith(0, 1), 1);
            s.due("none from the beginning", x.breachesWith(0, 0), 2);
            s.due("nine from the beginning", x.breachesWith(0, 9), 0);
            s.due("level 1, the changes of level 0 count", x.breachesWith(1, 0), 2);
            s.due("level 1, its own do not", x.breachesWith(1, 1), 1);
        });
    }
}
