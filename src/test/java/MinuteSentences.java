/** The sentences on what is done when a minute passes. */
final class MinuteSentences extends Group {
    MinuteSentences(Sentences sentences) {
        super(sentences);
    }

    @Override
    void test() {
        s.under("A MINUTE");
        order();
        taking();
        answering();
        responseClock();
        resolveClock();
        levelClock();
        breaches();
        working();
        climbing();
        times();
        solvedTwins();
    }

    private void order() {
        s.of("When minute m passes, the following is done in this order.", () -> {
            HelpDesk x = Desks.open(0, 0, 1, 0, 1);
            Desks.report(x, 2);
            x.pass(1);
            s.due("events", x.logSize(), 2 + 6);
            event(x, 2, 0, 1, 0);
            event(x, 3, 1, 9, 0);
            event(x, 4, 1, 8, 1);
            event(x, 5, 1, 9, 1);
            event(x, 6, 1, 5, 0);
            event(x, 7, 1, 4, 1);
        });
    }

    private void taking() {
        s.of("If the minute is open: for each level in ascending order", () -> {
            HelpDesk x = Desks.calm(24);
            for (int t = 0; t < 12; t++) {
                x.climb(t);
            }
            x.setAgents(0, 9);
            x.setAgents(1, 0);
            x.pass(1);
            s.due("nine agents, twelve tickets", x.busyAgents(0), 9);
            s.due("no agent, twelve tickets", x.busyAgents(1), 0);
            s.due("the first in the urgency order", x.nextTicket(0), 21);
            x.setAgents(1, 9);
            x.setAgents(0, 8);
            x.pass(1);
            s.due("one agent less", x.busyAgents(0), 8);
            s.due("nine agents now", x.busyAgents(1), 9);
            HelpDesk y = Desks.calm(3);
            y.setAgents(0, 9);
            y.pass(1);
            s.due("fewer tickets than agents", y.busyAgents(0), 3);
            HelpDesk z = Desks.calm(4);
            z.climb(0);
            z.climb(1);
            z.climb(1);
            z.climb(2);
            z.climb(2);
            z.climb(2);
            z.pass(1);
            for (int level = 0; level < 4; level++) {
                event(z, 10 + level, 0, 1, level == 0 ? 3 : level - 1);
            }
            HelpDesk w = new HelpDesk();
            w.addKind(10080, 10080, 480, 0, 0, true);
            w.setDay(0, 10, 12);
            w.report(0, 1, 1, 1);
            w.pass(10);
            s.due("closed until then", w.stateOf(0), Desks.QUEUED);
            w.pass(1);
            s.due("open", w.stateOf(0), Desks.IN_WORK);
            w.setAgents(0, 0);
            w.setAgents(0, 1);
            w.pass(1);
            s.due("the last open minute", w.stateOf(0), Desks.IN_WORK);
            w.setAgents(0, 0);
            w.setAgents(0, 1);
            w.pass(1);
            s.due("closed again", w.stateOf(0), Desks.QUEUED);
            int[][] hours = {{0, 0}, {0, 1440}, {0, 1}, {1439, 1440}, {540, 1020}, {0, 1430}, {10, 1440}, {1, 2}};
            for (int[] today : hours) {
                for (int[] tomorrow : hours) {
                    midnight(today, tomorrow);
                }
            }
        });
    }

    /** Minutes pass at once from one day to the next; whether one is open is asked of each of them. */
    private void midnight(int[] today, int[] tomorrow) {
        HelpDesk x = new HelpDesk();
        x.addKind(10080, 10080, 480, 0, 0, true);
        x.setDay(1, today[0], today[1]);
        x.setDay(2, tomorrow[0], tomorrow[1]);
        int from = 2 * 1440 - 100;
        x.pass(from);
        x.report(0, 1, 1, 1);
        x.pass(200);
        int first = HelpDesk.NONE;
        int open = 0;
        for (int minute = from; minute < from + 200; minute++) {
            if (x.isOpen(minute) == 1) {
                first = open == 0 ? minute : first;
                open++;
            }
        }
        String days = today[0] + " to " + today[1] + ", " + tomorrow[0] + " to " + tomorrow[1];
        s.due("taken in the first open minute: " + days, x.answeredAt(0), first);
        s.due("worked on in all of them: " + days, x.progress(0), open);
    }

    private void answering() {
        s.of("If it had not been answered", () -> {
            HelpDesk x = Desks.calm(2);
            x.pass(3);
            x.climb(0);
            x.pass(3);
            s.due("taken again", x.logType(x.logSize() - 1) * 10 + x.logTicket(x.logSize() - 1), 10);
            s.due("answered before", x.answeredAt(0), 0);
            s.due("not answered before", x.answeredAt(1), 3);
        });
    }

    private void responseClock() {
        s.of("For each ticket in ascending order for which the minute counts", () -> {
            HelpDesk x = new HelpDesk();
            x.addKind(5, 5, 480, 0, 0, true);
            x.addKind(5, 5, 480, 0, 0, false);
            x.report(0, 1, 1, 1);
            x.report(1, 1, 1, 1);
            x.report(0, 1, 1, 1);
            x.pass(6);
            s.due("only those that always count", x.logSize(), 3 + 4);
            event(x, 3, 6, 8, 0);
            event(x, 4, 6, 9, 0);
            event(x, 5, 6, 8, 2);
            event(x, 6, 6, 9, 2);
            ownKinds();
        });
        s.of("Its response clock runs if", () -> {
            HelpDesk x = Desks.calm(7);
            x.setAgents(0, 0);
            x.pause(1);
            x.join(2, 0);
            x.join(3, 1);
            x.solve(4);
            x.setAgents(0, 1);
            x.setPriority(5, 3);
            x.pass(10);
            int[] due = {10, 10, 10, 10, 0, 0, 10};
            clocks(x, true, due, "queued, paused, twins of these, solved, in work, queued");
            x.setPriority(0, 3);
            x.pause(5);
            x.pass(10);
            clocks(x, true, new int[] {10, 20, 10, 20, 0, 0, 20}, "root answered; paused once answered");
            x.pause(0);
            x.resume(5);
            x.pass(10);
            clocks(x, true, new int[] {10, 30, 10, 30, 0, 0, 30}, "the answered root paused; queued and answered");
            x.part(2);
            x.setPriority(2, 3);
            x.join(5, 6);
            x.pass(10);
            clocks(x, true, new int[] {10, 40, 10, 40, 0, 0, 40}, "taken at once; an answered twin");
            s.due("the parted one is answered now", x.answeredAt(2), 30);
            everyRoot(true);
        });
    }

    private void resolveClock() {
        s.of("Its resolve clock runs if", () -> {
            HelpDesk x = Desks.calm(8);
            x.pause(1);
            x.join(2, 0);
            x.join(3, 1);
            x.solve(4);
            x.setPriority(5, 3);
            x.join(6, 5);
            x.pass(10);
            clocks(x, false, new int[] {10, 0, 10, 0, 0, 10, 10, 10},
                    "queued, paused, twins of these, solved, in work, its twin, queued");
            x.resume(1);
            x.pause(5);
            x.solve(0);
            x.pass(10);
            clocks(x, false, new int[] {10, 10, 10, 10, 0, 10, 10, 20}, "resumed, paused, solved, and their twins");
            everyRoot(false);
        });
    }

    /** For a twin, too, it is its own kind that tells whether the closed minutes count, and which targets it has. */
    private void ownKinds() {
        HelpDesk x = new HelpDesk();
        x.addKind(5, 10, 480, 0, 0, true);
        x.addKind(30, 60, 480, 0, 0, false);
        for (int t = 0; t < 4; t++) {
            x.report(t % 2, 1, 1, 1);
        }
        x.join(0, 1);
        x.join(3, 2);
        x.pass(100);
        for (int t = 0; t < 4; t++) {
            s.due("response clock of " + t, x.responseClock(t), t % 2 == 0 ? 100 : 0);
            s.due("resolve clock of " + t, x.resolveClock(t), t % 2 == 0 ? 100 : 0);
        }
        int[][] due = {{6, 8, 0}, {6, 8, 2}, {11, 9, 0}, {11, 9, 2}};
        for (int i = 0; i < due.length; i++) {
            event(x, 6 + i, due[i][0], due[i][1], due[i][2]);
            s.due("its own target", x.logDetail(6 + i), due[i][0] - 1);
        }
        s.due("no other breach", x.logSize(), 10);
    }

    /** A twin looks at its own root, whichever numbers the two have. */
    private void everyRoot(boolean response) {
        for (int pair = 0; pair < 16; pair++) {
            int ticket = pair / 4;
            int root = pair % 4;
            if (ticket == root) {
                continue;
            }
            String twin = ", " + ticket + " is a twin of " + root;
            HelpDesk x = Desks.calm(4);
            x.setAgents(0, 0);
            x.join(ticket, root);
            x.pass(10);
            clocks(x, response, ofPair(ticket, root, 10, 10), "queued" + twin);
            x.pause(root);
            x.pass(10);
            clocks(x, response, ofPair(ticket, root, response ? 20 : 10, 20), "paused" + twin);
            x.resume(root);
            x.setPriority(root, 3);
            x.setAgents(0, 1);
            x.pass(10);
            clocks(x, response, ofPair(ticket, root, 20, 30), "in work" + twin);
        }
    }

    private static int[] ofPair(int ticket, int root, int pair, int others) {
        int[] due = {others, others, others, others};
        due[ticket] = pair;
        due[root] = pair;
        return due;
    }

    private void clocks(HelpDesk x, boolean response, int[] due, String what) {
        for (int t = 0; t < due.length; t++) {
            s.due(what + ", ticket " + t, response ? x.responseClock(t) : x.resolveClock(t), due[t]);
        }
    }

    private void levelClock() {
        s.of("Its level clock runs if the ticket is QUEUED", () -> {
            HelpDesk x = Desks.open(10080, 10080, 480, 0, 100);
            Desks.report(x, 4);
            x.pause(1);
            x.join(2, 0);
            x.setPriority(3, 3);
            x.pass(50);
            s.due("until now", x.levelOf(0) + x.levelOf(1) + x.levelOf(2) + x.levelOf(3), 0);
            x.setAgents(0, 0);
            x.resume(1);
            x.part(2);
            x.pass(50);
            s.due("queued all the time", x.levelOf(0), 1);
            s.due("paused, a twin, in work", x.levelOf(1) + x.levelOf(2) + x.levelOf(3), 0);
            x.setAgents(1, 0);
            x.pass(49);
            s.due("a minute too few", x.levelOf(1) + x.levelOf(2) + x.levelOf(3), 0);
            x.pass(1);
            s.due("a hundred queued minutes", x.levelOf(1) + x.levelOf(2) + x.levelOf(3), 3);
            restingLevelClocks();
        });
        s.of("A clock that runs grows by 1", () -> {
            HelpDesk x = Desks.open(10080, 10080, 480, 0, 0);
            x.setAgents(0, 0);
            x.report(0, 1, 1, 1);
            for (int minute = 1; minute <= 5; minute++) {
                x.pass(1);
                s.due("response clock", x.responseClock(0), minute);
                s.due("resolve clock", x.resolveClock(0), minute);
            }
            x.pass(10075);
            s.due("a week", x.responseClock(0) + x.resolveClock(0), 2 * 10080);
        });
    }

    /** After 30 minutes in the queue the level clock rests, and 70 minutes are left when the ticket is back. */
    private void restingLevelClocks() {
        for (int way = 0; way < 5; way++) {
            HelpDesk x = Desks.open(10080, 10080, 480, 0, 100);
            x.setAgents(0, 0);
            Desks.report(x, 2);
            x.pass(30);
            x.pause(0);
            away(x, way);
            x.pass(20);
            back(x, way);
            x.pass(69);
            s.due("a minute too few, way " + way, x.levelOf(1), 0);
            x.pass(1);
            s.due("thirty and seventy minutes, way " + way, x.levelOf(1), 1);
            s.due("a paused one", x.levelOf(0), 0);
        }
    }

    private static void away(HelpDesk x, int way) {
        switch (way) {
            case 0:
                x.setAgents(0, 1);
                break;
            case 1:
                x.pause(1);
                break;
            default:
                x.join(1, 0);
        }
    }

    private static void back(HelpDesk x, int way) {
        switch (way) {
            case 0:
                x.setAgents(0, 0);
                break;
            case 1:
                x.resume(1);
                break;
            case 2:
                x.part(1);
                break;
            case 3:
                x.solve(0);
                x.reopen(0);
                x.part(1);
                x.pause(0);
                break;
            default:
                x.resume(0);
                x.part(1);
                x.pause(0);
        }
    }

    private void breaches() {
        s.of("If the response clock becomes greater", () -> {
            HelpDesk x = Desks.open(3, 5, 480, 0, 0);
            x.setAgents(0, 0);
            x.report(0, 1, 1, 1);
            x.pass(3);
            s.due("equal to the response target", x.responseBreaches(0), 0);
            x.pass(1);
            s.due("greater", x.responseBreaches(0), 1);
            event(x, 1, 4, 8, 0);
            x.pass(1);
            s.due("equal to the resolve target", x.resolveBreaches(0), 0);
            x.pass(1);
            s.due("greater", x.resolveBreaches(0), 1);
            event(x, 2, 6, 9, 0);
            x.pause(0);
            x.pass(9);
            x.resume(0);
            x.solve(0);
            x.reopen(0);
            x.pass(9);
            s.due("the first time alone", x.responseBreaches(0) * 10 + x.resolveBreaches(0), 11);
            s.due("no event for it", x.logSize(), 3 + 4);
            HelpDesk y = Desks.open(0, 0, 480, 0, 0);
            y.setAgents(0, 0);
            y.report(0, 1, 1, 1);
            y.pass(1);
            event(y, 1, 1, 8, 0);
            event(y, 2, 1, 9, 0);
            for (int target : new int[] {0, 1, 2, 7, 100}) {
                HelpDesk w = Desks.open(10080, target, 480, 0, 0);
                w.report(0, 1, 1, 1);
                w.pass(1);
                w.pass(300);
                event(w, 2, target + 1, 9, 0);
                HelpDesk v = Desks.open(target, 10080, 480, 0, 0);
                v.setAgents(0, 0);
                v.report(0, 1, 1, 1);
                v.pass(1);
                v.pass(300);
                event(v, 1, target + 1, 8, 0);
            }
            clocksApart();
            HelpDesk z = Desks.open(10080, 10079, 480, 0, 0);
            z.setAgents(0, 0);
            z.report(0, 1, 1, 1);
            z.pass(10079);
            s.due("not before the week's last minute", z.resolveBreaches(0), 0);
            z.pass(1);
            s.due("in the week's last minute", z.resolveBreaches(0), 1);
            s.due("a target of a week", z.responseBreaches(0), 0);
        });
    }

    /** Many minutes pass at once, and one of the two clocks has been running without the other. */
    private void clocksApart() {
        HelpDesk x = Desks.open(5, 10080, 480, 0, 0);
        Desks.report(x, 2);
        x.pause(0);
        x.join(1, 0);
        x.pass(100);
        s.due("a paused ticket and its twin", x.logSize(), 6);
        event(x, 4, 6, 8, 0);
        event(x, 5, 6, 8, 1);
        HelpDesk y = Desks.open(5, 10, 480, 0, 0);
        y.setAgents(0, 0);
        y.report(0, 1, 1, 1);
        y.pause(0);
        y.pass(3);
        y.resume(0);
        y.pass(100);
        s.due("resumed in time", y.logSize(), 5);
        event(y, 3, 6, 8, 0);
        event(y, 4, 3 + 11, 9, 0);
        HelpDesk z = Desks.open(20, 10, 480, 0, 0);
        z.report(0, 1, 1, 1);
        z.pass(5);
        z.pause(0);
        z.pass(50);
        z.resume(0);
        z.pass(100);
        s.due("answered, paused and resumed", z.logSize(), 6);
        event(z, 5, 5 + 50 + 6, 9, 0);
    }

    private void working() {
        s.of("If the minute is open: for each ticket IN WORK", () -> {
            HelpDesk x = new HelpDesk();
            x.addKind(10080, 10080, 480, 0, 0, true);
            x.setDay(0, 10, 15);
            x.setAgents(0, 2);
            Desks.report(x, 3);
            x.pass(15);
            x.pass(1000);
            s.due("two of three, in five open minutes", x.progress(0) * 100 + x.progress(1) * 10 + x.progress(2), 550);
            HelpDesk y = Desks.open(10080, 10080, 1, 0, 0);
            y.setAgents(0, 3);
            for (int t = 0; t < 3; t++) {
                y.report(0, 1, 1, t);
            }
            y.pass(1);
            for (int t = 0; t < 3; t++) {
                event(y, 6 + t, 1, 5, t);
            }
        });
        s.of("If it equals the effort of its kind then", () -> {
            for (int level = 0; level < 4; level++) {
                for (int kindLevel = 0; kindLevel < 4; kindLevel++) {
                    HelpDesk x = Desks.open(10080, 10080, 3, kindLevel, 0);
                    x.report(0, 1, 1, 1);
                    for (int i = 0; i < level; i++) {
                        x.climb(0);
                    }
                    s.due("not before", x.pass(2), 0);
                    s.due("in work", x.progress(0), 2);
                    boolean solves = level >= kindLevel;
                    String what = "at level " + level + " of " + kindLevel;
                    s.due(what, x.pass(1), solves ? 1 : 0);
                    s.due(what + ", solved at", x.solvedAt(0), solves ? 3 : HelpDesk.NONE);
                    s.due(what + ", level", x.levelOf(0), solves ? level : level + 1);
                }
            }
            HelpDesk y = Desks.open(10080, 10080, 1, 0, 0);
            y.report(0, 1, 1, 1);
            s.due("the least effort", y.pass(1), 1);
            HelpDesk z = Desks.calm(1);
            s.due("the greatest effort, a minute before", z.pass(479), 0);
            s.due("the greatest effort", z.pass(1), 1);
        });
    }

    private void climbing() {
        s.of("For each QUEUED ticket in ascending order: if the climb time", () -> {
            HelpDesk x = Desks.open(10080, 10080, 480, 0, 1);
            x.setAgents(0, 0);
            for (int level = 1; level < 4; level++) {
                x.setAgents(level, 0);
            }
            Desks.report(x, 2);
            x.pass(3);
            for (int i = 0; i < 6; i++) {
                event(x, 2 + i, 1 + i / 2, 4, i % 2);
            }
            s.due("to level 3", x.levelOf(0) + x.levelOf(1), 6);
            x.pass(500);
            s.due("no further", x.logSize(), 8);
            HelpDesk y = Desks.open(10080, 10080, 480, 0, 0);
            y.setAgents(0, 0);
            y.report(0, 1, 1, 1);
            y.pass(10080);
            s.due("a climb time of 0", y.levelOf(0), 0);
            HelpDesk z = Desks.open(10080, 10080, 480, 0, 4);
            z.report(0, 1, 1, 1);
            z.pass(100);
            s.due("in work", z.levelOf(0), 0);
            HelpDesk w = Desks.open(10080, 10080, 5, 1, 1);
            w.setAgents(1, 0);
            w.report(0, 1, 1, 1);
            w.pass(5);
            s.due("after its work, once alone in this minute", w.levelOf(0), 1);
            w.pass(1);
            s.due("and in the next one again", w.levelOf(0), 2);
            HelpDesk v = Desks.open(10080, 10080, 480, 0, 30);
            v.setAgents(0, 0);
            v.setAgents(1, 0);
            v.setAgents(2, 0);
            v.pass(10);
            v.report(0, 1, 1, 1);
            v.pass(20);
            v.pause(0);
            v.pass(7);
            v.resume(0);
            v.pass(300);
            event(v, 3, 47, 4, 0);
            event(v, 4, 77, 4, 0);
            event(v, 5, 107, 4, 0);
            event(v, 6, 107, 1, 0);
            for (int climb = 1; climb < 6; climb++) {
                for (int kindLevel = 0; kindLevel < 4; kindLevel++) {
                    climbingAtOnce(climb, kindLevel);
                }
            }
        });
        s.of("A ticket that climbs gets the next higher level", () -> {
            HelpDesk x = Desks.open(10080, 10080, 480, 3, 20);
            x.report(0, 1, 1, 1);
            x.setAgents(1, 0);
            x.pass(9);
            x.climb(0);
            s.due("level", x.levelOf(0), 1);
            s.due("state", x.stateOf(0), Desks.QUEUED);
            s.due("progress", x.progress(0), 0);
            x.pass(19);
            s.due("level clock", x.levelOf(0), 1);
            x.setAgents(2, 0);
            x.pass(1);
            s.due("level clock", x.levelOf(0), 2);
            x.pass(19);
            s.due("level clock", x.levelOf(0), 2);
            x.pass(1);
            s.due("to the top", x.levelOf(0), 3);
        });
    }

    /** Many minutes pass at once, and a ticket climbs in three of them, between its two breaches. */
    private void climbingAtOnce(int climb, int kindLevel) {
        HelpDesk x = Desks.open(climb - 1, 3 * climb, 480, kindLevel, climb);
        for (int level = 0; level < 4; level++) {
            x.setAgents(level, 0);
        }
        x.report(0, 1, 1, 1);
        x.pass(100);
        s.due("a report, two breaches and three climbs", x.logSize(), 6);
        event(x, 1, climb, 8, 0);
        event(x, 2, climb, 4, 0);
        event(x, 3, 2 * climb, 4, 0);
        event(x, 4, 3 * climb, 4, 0);
        event(x, 5, 3 * climb + 1, 9, 0);
        HelpDesk y = Desks.open(climb, 3 * climb - 1, 480, kindLevel, climb);
        for (int level = 0; level < 4; level++) {
            y.setAgents(level, 0);
        }
        y.report(0, 1, 1, 1);
        y.pass(100);
        event(y, 1, climb, 4, 0);
        event(y, 2, climb + 1, 8, 0);
    }

    private void times() {
        s.of("The time becomes m + 1", () -> {
            HelpDesk x = new HelpDesk();
            for (int minute = 1; minute <= 3; minute++) {
                x.pass(1);
                s.due("now", x.now(), minute);
            }
        });
        s.of("Events of step 1 have the time m", () -> {
            HelpDesk x = Desks.open(10080, 10, 11, 1, 0);
            x.pass(4);
            x.report(0, 1, 1, 1);
            x.setAgents(0, 2);
            x.report(0, 1, 1, 1);
            x.pass(11);
            int[][] due = {{4, 1, 0}, {4, 1, 1}, {15, 9, 0}, {15, 9, 1}, {15, 4, 0}, {15, 4, 1}};
            for (int i = 0; i < due.length; i++) {
                event(x, 2 + i, due[i][0], due[i][1], due[i][2]);
            }
            x.pass(1);
            event(x, 8, 15, 1, 0);
        });
    }

    private void solvedTwins() {
        s.of("When a ticket is SOLVED, all its twins", () -> {
            HelpDesk x = Desks.open(10080, 10080, 10, 0, 0);
            Desks.report(x, 5);
            x.join(4, 2);
            x.join(0, 2);
            x.join(3, 2);
            x.setPriority(2, 3);
            s.due("solved", x.pass(10), 4);
            int first = x.logSize() - 4;
            int[] order = {2, 0, 3, 4};
            for (int i = 0; i < order.length; i++) {
                event(x, first + i, 10, 5, order[i]);
                s.due("at the same time", x.solvedAt(order[i]), 10);
            }
            s.due("no other", x.stateOf(1), Desks.QUEUED);
        });
    }
}
