/** Promises 59 and 60: saved states. */
public final class SavedStatesTest {
    private static final Check check = new Check();

    public static void main(String[] args) {
        slots();
        allComesBack();
        twoSlots();
        whatDoesNotBelong();
        savedStatesStay();
        twoOtherStates();
        replaysOfTwoStates();
        priorityInTheHistory();
        nothingShinesThrough();
        fullAgain();
        check.finish();
    }

    private static void slots() {
        HelpDesk x = new HelpDesk();
        for (int slot : new int[] {-1, 2, Integer.MIN_VALUE, Integer.MAX_VALUE}) {
            check.due(59, "save " + slot, x.save(slot), false);
            check.due(60, "restore " + slot, x.restore(slot), false);
        }
        check.due(60, "nothing saved", x.restore(0), false);
        check.due(59, "save", x.save(1), true);
        check.due(60, "the other slot", x.restore(0), false);
        check.due(60, "this slot", x.restore(1), true);
    }

    private static HelpDesk someDesk() {
        HelpDesk x = new HelpDesk();
        rebuildSomeDesk(x);
        return x;
    }

    private static void rebuildSomeDesk(HelpDesk x) {
        x.addKind(3, 8, 20, 1, 30, true);
        x.setDay(0, 0, 1440);
        x.setAgents(1, 3);
        for (int t = 0; t < 4; t++) {
            x.report(0, 40 + t, 500, t);
        }
        x.join(1, 0);
        x.pass(10);
        x.pause(2);
    }

    /** A number for all that the document says belongs to a saved state. */
    private static long allOf(HelpDesk x) {
        long sum = x.now();
        for (int i = 0; i < 7; i++) {
            sum = sum * 31 + x.openingMinute(i);
            sum = sum * 31 + x.closingMinute(i);
        }
        sum = sum * 31 + x.kindCount();
        for (int level = 0; level < 4; level++) {
            sum = sum * 31 + x.agents(level);
        }
        sum = sum * 31 + x.ticketCount();
        for (int t = 0; t < x.ticketCount(); t++) {
            int[] told = {x.stateOf(t), x.kindOf(t), x.levelOf(t), x.priorityOf(t), x.progress(t), x.rootOf(t),
                x.reportedAt(t), x.answeredAt(t), x.solvedAt(t), x.responseClock(t), x.resolveClock(t)};
            for (int number : told) {
                sum = sum * 31 + number;
            }
        }
        sum = sum * 31 + x.historyLength();
        for (int i = 0; i < x.logSize(); i++) {
            int[] told = {x.logTime(i), x.logType(i), x.logTicket(i), x.logDetail(i)};
            for (int number : told) {
                sum = sum * 31 + number;
            }
        }
        return sum * 31 + x.breachesWith(0, 1);
    }

    private static void change(HelpDesk x) {
        x.addKind(0, 0, 1, 0, 1, false);
        x.setDay(0, 1, 2);
        x.setDay(6, 1, 2);
        x.setAgents(0, 7);
        x.setAgents(3, 0);
        x.part(1);
        x.resume(2);
        x.climb(2);
        x.setPriority(0, 3);
        x.report(1, 40, 500, 3);
        x.pass(3000);
        x.solve(3);
    }

    private static void allComesBack() {
        HelpDesk x = someDesk();
        long before = allOf(x);
        check.due(59, "save", x.save(0), true);
        check.due(59, "saving changes nothing", allOf(x), before);
        change(x);
        check.due(60, "it is another state", allOf(x) == before, false);
        check.due(60, "restore", x.restore(0), true);
        check.due(60, "all is back", allOf(x), before);
        check.due(60, "the customer too", x.customerTickets(43), 8);
        check.due(60, "the subject too", x.suggestRoot(2), 0);
        check.due(60, "the kinds too", x.report(1, 1, 1, 1), HelpDesk.NO_SUCH_KIND);
        HelpDesk y = someDesk();
        x.pass(400);
        y.pass(400);
        check.due(60, "and goes on alike", allOf(x), allOf(y));
    }

    private static void twoSlots() {
        HelpDesk x = someDesk();
        x.save(0);
        x.pass(5);
        x.save(1);
        x.pass(5);
        x.restore(0);
        check.due(60, "slot 0", x.now(), 10);
        x.restore(1);
        check.due(60, "slot 1", x.now(), 15);
        x.restore(0);
        check.due(60, "slot 0 again", x.now(), 10);
        x.pass(100);
        x.save(0);
        x.restore(1);
        x.restore(0);
        check.due(59, "replaced", x.now(), 110);
    }

    private static void whatDoesNotBelong() {
        HelpDesk x = new HelpDesk();
        x.appendText(0x70617373);
        x.save(0);
        x.appendText(0x20373b20);
        x.restore(0);
        check.due(60, "the text stays", x.truncateText(8), 8);
        check.due(60, "and runs", x.runScript(), 1);
        x.save(0);
        x.appendText(0x3b202020);
        x.runScript();
        x.restore(0);
        check.due(60, "error code", x.errorCode(), 1);
        check.due(60, "error position", x.errorPosition(), 0);
        x.appendText(0x70617573);
        x.appendText(0x6520303b);
        x.runScript();
        x.restore(0);
        check.due(60, "failure", x.scriptFailure(), HelpDesk.NO_SUCH_TICKET);
        check.due(60, "time", x.now(), 7);
    }

    private static void savedStatesStay() {
        HelpDesk x = someDesk();
        x.save(0);
        for (int i = 0; i < 5; i++) {
            change(x);
            check.due(60, "restore " + i, x.restore(0), true);
            check.due(60, "time " + i, x.now(), 10);
            check.due(60, "log " + i, x.logSize(), 14);
            check.due(60, "history " + i, x.historyLength(), 8);
        }
    }

    /** A desk like someDesk in its counts, but with other numbers in them. */
    private static void otherDesk(HelpDesk x) {
        x.addKind(5, 2, 460, 0, 3, false);
        x.pass(1);
        x.setAgents(2, 4);
        x.setDay(1, 7, 1000);
        for (int t = 0; t < 4; t++) {
            x.report(0, 70, 20 + t, 3 - t);
        }
        x.climb(3);
        x.join(2, 3);
        x.solve(3);
        x.pass(600);
        x.reopen(3);
        x.setPriority(0, 2);
        x.pass(90);
    }

    private static void twoOtherStates() {
        HelpDesk x = new HelpDesk();
        x.save(0);
        otherDesk(x);
        long other = allOf(x);
        x.save(1);
        x.restore(0);
        check.due(60, "new again", x.now() + x.logSize() + x.historyLength() + x.kindCount() + x.ticketCount(), 0);
        otherDesk(x);
        check.due(60, "the same calls, the same desk", allOf(x), other);
        HelpDesk y = someDesk();
        long some = allOf(y);
        y.save(0);
        HelpDesk fresh = new HelpDesk();
        fresh.save(0);
        otherDesk(fresh);
        fresh.save(1);
        fresh.restore(0);
        rebuildSomeDesk(fresh);
        check.due(60, "some desk on the place of another", allOf(fresh), some);
        fresh.save(0);
        fresh.restore(1);
        check.due(60, "the other desk", allOf(fresh), other);
        check.due(60, "its customers", fresh.customerTickets(70), 15);
        check.due(60, "its subjects", fresh.suggestRoot(1), HelpDesk.NONE);
        check.due(60, "its replay", fresh.breachesWith(0, 3), x.breachesWith(0, 3));
        fresh.pass(1500);
        x.pass(1500);
        check.due(60, "its kinds", allOf(fresh), allOf(x));
        fresh.restore(0);
        check.due(60, "some desk again", allOf(fresh), some);
        check.due(60, "its customers", fresh.customerTickets(43), 8);
        check.due(60, "its subjects", fresh.suggestRoot(3), 0);
        check.due(60, "its replay", fresh.breachesWith(0, 0), y.breachesWith(0, 0));
        fresh.pass(1500);
        y.pass(1500);
        check.due(60, "its kinds", allOf(fresh), allOf(y));
    }

    /** The history and the kinds of a state are told apart from those of the other by their replays. */
    private static void replaysOfTwoStates() {
        HelpDesk x = new HelpDesk();
        x.save(0);
        x.addKind(50, 5, 20, 0, 0, false);
        x.addKind(5, 50, 20, 0, 0, false);
        x.pass(10);
        x.setDay(0, 0, 1400);
        x.report(0, 1, 1, 1);
        x.pass(10);
        x.report(1, 1, 1, 3);
        x.pass(100);
        long[] one = replays(x);
        x.save(1);
        x.restore(0);
        x.addKind(10080, 10080, 20, 0, 0, false);
        x.addKind(10080, 10080, 20, 0, 0, false);
        x.pass(1);
        x.setAgents(3, 1);
        x.report(0, 1, 1, 3);
        x.setDay(0, 0, 1);
        x.pass(400);
        long[] other = replays(x);
        x.save(0);
        for (int slot = 1; slot >= 0; slot--) {
            x.restore(slot);
            long[] back = replays(x);
            for (int i = 0; i < back.length; i++) {
                check.due(60, "slot " + slot + ", replay " + i, back[i], slot == 1 ? one[i] : other[i]);
            }
        }
        check.due(45, "the first state's breaches", one[1], 2);
        check.due(45, "without agents", one[0], 4);
        check.due(45, "the other state's", other[0], 0);
        x.restore(1);
        check.due(60, "what happened", x.responseBreaches(1) * 100 + x.resolveBreaches(0), 101);
        check.due(60, "what is late by the kinds", x.responseBreaches(0) + x.resolveBreaches(1), 0);
    }

    /** The priorities of the reports in the history come back, too. */
    private static void priorityInTheHistory() {
        HelpDesk x = new HelpDesk();
        x.addKind(5, 500, 20, 0, 0, true);
        x.addKind(500, 500, 20, 0, 0, true);
        x.setDay(0, 0, 1440);
        x.save(0);
        x.report(1, 1, 1, 0);
        x.report(0, 1, 1, 3);
        x.pass(100);
        x.save(1);
        x.restore(0);
        x.report(1, 1, 1, 3);
        x.report(0, 1, 1, 0);
        x.pass(100);
        check.due(45, "the urgent one is not late", x.breachesWith(0, 1), 1);
        x.restore(1);
        check.due(60, "the urgent one first", x.breachesWith(0, 1), 0);
    }

    private static long[] replays(HelpDesk x) {
        return new long[] {x.breachesWith(0, 0), x.breachesWith(0, 1), x.breachesWith(0, 2), x.leastAgents(0)};
    }

    /** Tickets that came after the saved state are not counted once it is back. */
    private static void nothingShinesThrough() {
        HelpDesk x = new HelpDesk();
        x.addKind(0, 0, 20, 0, 0, true);
        x.report(0, 1, 1, 1);
        x.save(0);
        for (int t = 1; t < 9; t++) {
            x.report(0, 1, 1, 1);
        }
        x.solve(1);
        x.pass(7);
        x.join(8, 7);
        x.join(3, 0);
        x.solve(0);
        x.solve(2);
        x.report(0, 1, 1, 1);
        x.restore(0);
        check.due(60, "no breaches", x.responseBreaches(0) + x.resolveBreaches(0), 0);
        check.due(60, "none solved", x.resolvePercentile(100), HelpDesk.NONE);
        check.due(60, "one queued", x.queueLength(0), 1);
        check.due(60, "no twins", x.twins(0), 0);
        check.due(60, "one of the customer's", x.customerTickets(1), 1);
        x.pass(2);
        x.solve(0);
        check.due(60, "its clock alone", x.resolvePercentile(100), 2);
    }

    /** What was full is not full once a smaller state is back. */
    private static void fullAgain() {
        HelpDesk x = new HelpDesk();
        x.addKind(3, 8, 20, 1, 30, true);
        x.save(0);
        for (int t = 0; t < 60; t++) {
            x.report(0, 1, 1, 1);
        }
        for (int kind = 1; kind < 6; kind++) {
            x.addKind(3, 8, 20, 1, 30, true);
        }
        x.save(1);
        x.restore(0);
        check.due(60, "a ticket", x.report(0, 1, 1, 1), 0);
        check.due(60, "a kind", x.addKind(3, 8, 20, 1, 30, false), 1);
        check.due(60, "tickets", x.ticketCount(), 1);
        x.restore(1);
        check.due(60, "full", x.report(0, 1, 1, 1), HelpDesk.FULL);
        check.due(60, "full", x.addKind(3, 8, 20, 1, 30, true), HelpDesk.FULL);
    }
}
