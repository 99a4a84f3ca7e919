/** Promises 20 and 21, and what is done when a minute passes. */
public final class TimeTest {
    private static final Check check = new Check();

    public static void main(String[] args) {
        range();
        takenInTheUrgencyOrder();
        everyLevelTakes();
        closedMinutes();
        clocksThatRunAlways();
        breaches();
        twinsClocks();
        climbsForTheEffort();
        climbsForTheTime();
        solvedTwins();
        onePassOrMany();
        check.finish();
    }

    private static void range() {
        HelpDesk x = new HelpDesk();
        check.due(21, "now", x.now(), 0);
        for (int minutes : new int[] {0, -1, 10081, Integer.MIN_VALUE, Integer.MAX_VALUE}) {
            check.due(20, "pass " + minutes, x.pass(minutes), HelpDesk.OUT_OF_RANGE);
        }
        check.due(21, "now", x.now(), 0);
        check.due(20, "pass", x.pass(1), 0);
        check.due(20, "beyond the week", x.pass(10080), HelpDesk.OUT_OF_RANGE);
        check.due(20, "overflow", x.pass(Integer.MAX_VALUE), HelpDesk.OUT_OF_RANGE);
        check.due(20, "to the end", x.pass(10079), 0);
        check.due(21, "now", x.now(), 10080);
        check.due(20, "at the end", x.pass(1), HelpDesk.OUT_OF_RANGE);
        check.due(20, "not recorded", x.historyLength(), 0);
    }

    private static void takenInTheUrgencyOrder() {
        HelpDesk x = new HelpDesk();
        x.addKind(1000, 500, 10, 0, 0, true);
        x.addKind(1000, 400, 10, 0, 0, true);
        x.setDay(0, 0, 1440);
        x.report(0, 1, 1, 1);
        x.report(0, 1, 1, 2);
        x.report(1, 1, 1, 1);
        x.report(0, 1, 1, 1);
        x.report(0, 1, 1, 3);
        int[] order = {4, 1, 2, 0, 3};
        for (int i = 0; i < order.length; i++) {
            check.due(36, "next", x.nextTicket(0), order[i]);
            x.pass(10);
            check.due(20, "the ticket taken " + i, x.answeredAt(order[i]), 10 * i);
            check.due(20, "and solved", x.solvedAt(order[i]), 10 * i + 10);
        }
    }

    private static void everyLevelTakes() {
        HelpDesk x = new HelpDesk();
        x.addKind(1000, 500, 10, 0, 0, true);
        x.setDay(0, 0, 1440);
        x.setAgents(2, 2);
        for (int t = 0; t < 5; t++) {
            x.report(0, 1, 1, 1);
        }
        for (int t = 0; t < 3; t++) {
            x.climb(t);
            x.climb(t);
        }
        x.pass(1);
        check.due(20, "level 0", x.busyAgents(0), 1);
        check.due(20, "level 2", x.busyAgents(2), 2);
        int[] taken = {3, 0, 1};
        for (int i = 0; i < 3; i++) {
            check.due(20, "levels in ascending order", x.logTicket(11 + i), taken[i]);
            check.due(20, "at the level", x.logDetail(11 + i), i == 0 ? 0 : 2);
            check.due(20, "at the minute's time", x.logTime(11 + i), 0);
        }
    }

    private static void closedMinutes() {
        HelpDesk x = new HelpDesk();
        x.addKind(1000, 1000, 20, 0, 0, false);
        x.report(0, 1, 1, 1);
        x.pass(540);
        check.due(20, "not taken", x.stateOf(0), 0);
        check.due(20, "no clock runs", x.responseClock(0) + x.resolveClock(0), 0);
        x.pass(1);
        check.due(20, "taken in the first open minute", x.answeredAt(0), 540);
        check.due(20, "worked on", x.progress(0), 1);
        HelpDesk y = new HelpDesk();
        y.addKind(1000, 1000, 20, 0, 0, false);
        y.pass(1010);
        y.report(0, 1, 1, 1);
        check.due(20, "none solved", y.pass(1440), 1);
        check.due(20, "over night", y.solvedAt(0), 1440 + 550);
        check.due(20, "only open minutes count", y.resolveClock(0), 20);
    }

    private static void clocksThatRunAlways() {
        HelpDesk x = new HelpDesk();
        x.addKind(1000, 2000, 20, 0, 0, true);
        x.pass(1010);
        x.report(0, 1, 1, 1);
        x.report(0, 1, 1, 1);
        x.pass(100);
        check.due(20, "in work over night", x.stateOf(0), 1);
        check.due(20, "progress in open minutes alone", x.progress(0), 10);
        check.due(20, "its clock runs", x.resolveClock(0), 100);
        check.due(20, "answered at once", x.responseClock(0), 0);
        check.due(20, "the other waits", x.responseClock(1), 100);
        x.pause(1);
        x.pass(10);
        check.due(20, "paused: the response clock runs", x.responseClock(1), 110);
        check.due(20, "paused: the resolve clock rests", x.resolveClock(1), 100);
        x.pause(0);
        x.pass(10);
        check.due(20, "paused and answered: no clock runs", x.responseClock(0) + x.resolveClock(0), 110);
    }

    private static void breaches() {
        HelpDesk x = new HelpDesk();
        x.addKind(5, 5, 20, 0, 0, true);
        x.report(0, 1, 1, 1);
        x.pass(5);
        check.due(20, "at the target", x.responseBreaches(0) + x.resolveBreaches(0), 0);
        x.pass(1);
        check.due(20, "above it", x.responseBreaches(0) + x.resolveBreaches(0), 2);
        check.due(20, "response first", x.logType(1), 8);
        check.due(20, "resolve second", x.logType(2), 9);
        check.due(20, "at the end of the minute", x.logTime(1), 6);
        check.due(20, "the target", x.logDetail(2), 5);
        x.pass(100);
        check.due(20, "once alone", x.logSize(), 3);
        HelpDesk y = new HelpDesk();
        y.addKind(0, 0, 1, 0, 0, true);
        y.setDay(0, 0, 1440);
        y.report(0, 1, 1, 1);
        check.due(20, "solved in the minute", y.pass(1), 1);
        check.due(20, "answered without waiting", y.responseBreaches(0), 0);
        check.due(20, "breach and solution at once", y.resolveBreaches(0), 1);
        check.due(20, "breach first", y.logType(2), 9);
        check.due(20, "then solved", y.logType(3), 5);
    }

    private static void twinsClocks() {
        HelpDesk x = new HelpDesk();
        x.addKind(1000, 2000, 20, 0, 0, true);
        x.addKind(1000, 2000, 20, 0, 0, false);
        x.report(0, 1, 1, 1);
        x.report(0, 1, 1, 1);
        x.report(1, 1, 1, 1);
        x.join(1, 0);
        x.join(2, 0);
        x.pass(10);
        check.due(20, "a twin waits as its root does", x.responseClock(1), 10);
        check.due(20, "both clocks", x.resolveClock(1), 10);
        check.due(20, "by its own kind", x.responseClock(2) + x.resolveClock(2), 0);
        x.pause(0);
        x.pass(10);
        check.due(20, "root paused: response runs", x.responseClock(1), 20);
        check.due(20, "root paused: resolve rests", x.resolveClock(1), 10);
        x.resume(0);
        x.pass(525);
        check.due(20, "the root is in work", x.stateOf(0), 1);
        check.due(20, "response rests once the root is answered", x.responseClock(1), 540);
        check.due(20, "resolve runs", x.resolveClock(1), 535);
        check.due(20, "open minutes count for the other kind", x.resolveClock(2), 5);
        check.due(20, "a twin is not answered by its root", x.answeredAt(1), HelpDesk.NONE);
        x.part(1);
        x.pass(1);
        check.due(20, "parted: its response clock runs on", x.responseClock(1), 541);
    }

    private static void climbsForTheEffort() {
        HelpDesk x = new HelpDesk();
        x.addKind(1000, 1000, 10, 2, 0, true);
        x.setDay(0, 0, 1440);
        x.report(0, 1, 1, 1);
        x.pass(9);
        check.due(20, "not yet", x.levelOf(0), 0);
        x.pass(1);
        check.due(20, "climbs", x.levelOf(0), 1);
        check.due(20, "queued", x.stateOf(0), 0);
        check.due(20, "progress", x.progress(0), 0);
        check.due(20, "time", x.logTime(2), 10);
        check.due(20, "solved at its level", x.pass(20), 1);
        check.due(20, "time", x.solvedAt(0), 30);
        check.due(20, "level", x.levelOf(0), 2);
        HelpDesk y = new HelpDesk();
        y.addKind(1000, 1000, 10, 1, 0, true);
        y.setDay(0, 0, 1440);
        y.report(0, 1, 1, 1);
        y.climb(0);
        y.climb(0);
        check.due(20, "solved above its level", y.pass(10), 1);
    }

    private static void climbsForTheTime() {
        HelpDesk x = new HelpDesk();
        x.addKind(1000, 1000, 10, 0, 30, true);
        x.report(0, 1, 1, 1);
        x.pass(29);
        check.due(20, "not yet", x.levelOf(0), 0);
        x.pass(1);
        check.due(20, "climbs", x.levelOf(0), 1);
        check.due(20, "time", x.logTime(1), 30);
        x.pass(60);
        check.due(20, "to the top", x.levelOf(0), 3);
        x.pass(100);
        check.due(20, "no further", x.levelOf(0), 3);
        check.due(20, "events", x.logSize(), 4);
        HelpDesk y = new HelpDesk();
        y.addKind(1000, 1000, 10, 0, 30, true);
        y.report(0, 1, 1, 1);
        y.pass(20);
        y.pause(0);
        y.pass(20);
        y.resume(0);
        y.pass(9);
        check.due(20, "the level clock rests while paused", y.levelOf(0), 0);
        y.pass(1);
        check.due(20, "and goes on", y.levelOf(0), 1);
    }

    private static void solvedTwins() {
        HelpDesk x = new HelpDesk();
        x.addKind(1000, 1000, 10, 0, 0, true);
        x.setDay(0, 0, 1440);
        for (int t = 0; t < 4; t++) {
            x.report(0, 1, 1, 1);
        }
        x.join(3, 2);
        x.join(0, 2);
        x.setPriority(2, 3);
        check.due(20, "with twins", x.pass(10), 3);
        int[] order = {2, 0, 3};
        for (int i = 0; i < 3; i++) {
            check.due(20, "the root first", x.logTicket(7 + i), order[i]);
            check.due(20, "at the same time", x.logTime(7 + i), 10);
        }
        check.due(20, "the twin's root", x.rootOf(3), 2);
    }

    /** Time passes in the same way at once and minute by minute. */
    private static void onePassOrMany() {
        HelpDesk x = busyDesk();
        HelpDesk y = busyDesk();
        int atOnce = x.pass(450);
        int oneByOne = 0;
        for (int i = 0; i < 450; i++) {
            oneByOne += y.pass(1);
        }
        check.due(20, "solved", oneByOne, atOnce);
        check.due(20, "events", y.logSize(), x.logSize());
        HelpDesk z = busyDesk();
        z.pass(450);
        for (int i = 0; i < 40; i++) {
            check.due(20, "type of event " + i, y.logType(i), z.logType(i));
        }
        for (int i = 0; i < 100; i++) {
            check.due(20, "time of event " + i, z.logTime(i), x.logTime(i));
        }
    }

    private static HelpDesk busyDesk() {
        HelpDesk x = new HelpDesk();
        x.addKind(30, 100, 25, 1, 40, true);
        x.addKind(60, 120, 15, 2, 0, false);
        x.setDay(0, 20, 300);
        for (int t = 0; t < 12; t++) {
            x.report(t % 2, t, t % 3, t % 4);
        }
        x.join(4, 8);
        x.pause(5);
        return x;
    }
}
