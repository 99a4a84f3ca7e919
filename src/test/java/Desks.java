/** Desks that the tests of the document's sentences begin with, and what can be seen of a desk. */
final class Desks {
    static final int QUEUED = 0;
    static final int IN_WORK = 1;
    static final int PAUSED = 2;
    static final int SOLVED = 3;
    static final int TWIN = 4;

    private Desks() {
    }

    /** One kind that runs always, and a first day that is open throughout. */
    static HelpDesk open(int response, int resolve, int effort, int level, int climb) {
        HelpDesk x = new HelpDesk();
        x.addKind(response, resolve, effort, level, climb, true);
        x.setDay(0, 0, 1440);
        return x;
    }

    /** So many tickets on a desk on which nothing is late and the first solution is eight hours off. */
    static HelpDesk calm(int tickets) {
        HelpDesk x = open(10080, 10080, 480, 0, 0);
        report(x, tickets);
        return x;
    }

    static void report(HelpDesk x, int tickets) {
        for (int t = 0; t < tickets; t++) {
            x.report(0, 1, 1, 1);
        }
    }

    /**
     * At time 7: ticket 0 is QUEUED, 1 IN WORK, 2 PAUSED, 3 SOLVED, 4 a TWIN of 0, 5 SOLVED with its root 3,
     * and 6 is QUEUED at level 3.
     */
    static HelpDesk ofEveryState() {
        HelpDesk x = calm(7);
        x.setPriority(1, 3);
        x.setAgents(3, 0);
        x.climb(6);
        x.climb(6);
        x.climb(6);
        x.pause(2);
        x.join(4, 0);
        x.join(5, 3);
        x.solve(3);
        x.pass(7);
        return x;
    }

    /**
     * Ten tickets of two kinds and four priorities. At time 9 0 and 1 are IN WORK, 2 is PAUSED, 3 SOLVED, 4 a TWIN
     * of 0, 5 SOLVED with its root 3, 6 QUEUED at level 3 and 7 QUEUED at level 0; 8 is a TWIN of 0 and 9 QUEUED, and
     * these two have not been answered.
     */
    static HelpDesk mixed() {
        HelpDesk x = open(100, 200, 50, 1, 300);
        x.addKind(150, 250, 60, 2, 0, true);
        int[] priorities = {0, 1, 2, 3, 1, 0, 2, 1};
        for (int t = 0; t < priorities.length; t++) {
            x.report(t % 2, t, t, priorities[t]);
        }
        x.setAgents(0, 9);
        x.pass(3);
        x.climb(4);
        x.climb(5);
        x.climb(5);
        x.pass(2);
        x.join(4, 0);
        x.join(5, 3);
        x.pause(2);
        x.setAgents(3, 0);
        for (int level = 1; level < 4; level++) {
            x.climb(6);
        }
        x.pass(4);
        x.solve(3);
        x.setAgents(0, 2);
        x.report(0, 8, 8, 0);
        x.report(1, 9, 9, 3);
        x.join(8, 0);
        return x;
    }

    // The places of what a ticket tells among its fields.
    static final int STATE = 0;
    static final int LEVEL = 1;
    static final int PRIORITY = 2;
    static final int PROGRESS = 3;
    static final int ROOT = 4;
    static final int TWINS = 5;
    static final int SOLVED_AT = 6;

    static long[] fields(HelpDesk x, int t) {
        return new long[] {x.stateOf(t), x.levelOf(t), x.priorityOf(t), x.progress(t), x.rootOf(t), x.twins(t),
            x.solvedAt(t), x.answeredAt(t), x.reportedAt(t), x.responseClock(t), x.resolveClock(t), x.kindOf(t)};
    }

    /** Fills the history up with changes that change nothing. */
    static void fillHistory(HelpDesk x) {
        for (int i = x.historyLength(); i < 200; i++) {
            x.setDay(6, 0, 0);
        }
    }

    /** A desk of sixty tickets at time 0, 59 of them twins of ticket 0, with so many events (546 to 600). */
    static HelpDesk withEvents(int events) {
        HelpDesk x = calm(60);
        for (int t = 1; t < 60; t++) {
            x.join(t, 0);
        }
        for (int i = 0; i < 7; i++) {
            x.solve(0);
            x.reopen(0);
        }
        for (int i = x.logSize(); i < events; i++) {
            if (x.pause(0) < 0) {
                x.resume(0);
            }
        }
        return x;
    }

    /** The numbers beside a range, near and far. */
    static int[] beside(int least, int most) {
        return new int[] {least - 1, most + 1, Integer.MIN_VALUE, Integer.MAX_VALUE};
    }

    /** Appends the text, filled up with spaces, and cuts these off again; answers its length. */
    static int append(HelpDesk x, String text) {
        int length = 0;
        for (int i = 0; i < text.length(); i += 4) {
            int bytes = 0;
            for (int k = i; k < i + 4; k++) {
                bytes = bytes << 8 | (k < text.length() ? text.charAt(k) : ' ');
            }
            length = x.appendText(bytes);
        }
        return x.truncateText(length - Math.floorMod(-text.length(), 4));
    }

    static int run(HelpDesk x, String text) {
        append(x, text);
        return x.runScript();
    }

    /** The length of the text, which nothing tells: it is the greatest to which the text can be cut. */
    static int textLength(HelpDesk x) {
        int length = 400;
        while (length > 0 && x.truncateText(length) < 0) {
            length--;
        }
        return length;
    }

    /** All that a desk tells, but for a saved state; forecasts and replays come last, lest they change the rest. */
    static String picture(HelpDesk x) {
        StringBuilder p = new StringBuilder();
        add(p, x.now(), x.kindCount(), x.ticketCount(), x.historyLength(), x.logSize(), textLength(x));
        add(p, x.errorCode(), x.errorPosition(), x.scriptFailure(), x.openMinutes(0, 10080));
        for (int day = 0; day < 7; day++) {
            add(p, x.openingMinute(day), x.closingMinute(day));
        }
        for (int level = 0; level < 4; level++) {
            add(p, x.agents(level), x.queueLength(level), x.nextTicket(level), x.busyAgents(level));
        }
        for (int kind = -1; kind < x.kindCount(); kind++) {
            add(p, x.responseBreaches(kind), x.resolveBreaches(kind));
        }
        for (int customer = 0; customer < 100; customer++) {
            add(p, x.customerTickets(customer));
        }
        add(p, x.resolvePercentile(1), x.resolvePercentile(50), x.resolvePercentile(100));
        for (int t = 0; t < x.ticketCount(); t++) {
            add(p, x.stateOf(t), x.kindOf(t), x.levelOf(t), x.priorityOf(t), x.progress(t), x.rootOf(t), x.twins(t));
            add(p, x.reportedAt(t), x.answeredAt(t), x.solvedAt(t), x.responseClock(t), x.resolveClock(t));
            add(p, x.suggestRoot(t));
        }
        for (int i = 0; i < x.logSize(); i++) {
            add(p, x.logTime(i), x.logType(i), x.logTicket(i), x.logDetail(i));
        }
        forecasts(p, x);
        return p.toString();
    }

    private static void forecasts(StringBuilder p, HelpDesk x) {
        for (int t = 0; t < x.ticketCount(); t++) {
            add(p, x.forecast(t));
        }
        add(p, x.breachesAhead());
        for (int level = 0; level < 4; level++) {
            add(p, x.breachesWith(level, 0), x.breachesWith(level, 1), x.leastAgents(level));
        }
    }

    private static void add(StringBuilder picture, long... numbers) {
        for (long number : numbers) {
            picture.append(number).append(' ');
        }
        picture.append('\n');
    }
}
