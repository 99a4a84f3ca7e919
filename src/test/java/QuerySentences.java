/** The promises 35 to 42: queues, customers and breaches. */
final class QuerySentences extends Group {
    QuerySentences(Sentences sentences) {
        super(sentences);
    }

    @Override
    void test() {
        queueLength();
        nextTicket();
        busyAgents();
        suggestRoot();
        suggestRootAnswers();
        customerTickets();
        breaches();
        resolvePercentile();
    }

    /** Of sixty tickets five are at level 3, and the others at level 0; each level has an agent. */
    private static HelpDesk twoLevels() {
        HelpDesk x = Desks.calm(60);
        for (int t = 55; t < 60; t++) {
            x.climb(t);
            x.climb(t);
            x.climb(t);
        }
        return x;
    }

    private void queueLength() {
        s.under("Promise 35: queueLength");
        s.of("- `level`: 0 to 3", () -> {
            HelpDesk x = twoLevels();
            s.due("0", x.queueLength(0), 55);
            s.due("3", x.queueLength(3), 5);
        });
        s.of("Returns the number of QUEUED tickets of that level", () -> {
            s.due("none", new HelpDesk().queueLength(0), 0);
            s.due("all sixty", Desks.calm(60).queueLength(0), 60);
            HelpDesk x = Desks.ofEveryState();
            s.due("but those of another state", x.queueLength(0), 1);
            s.due("of level 3", x.queueLength(3), 1);
            x.pause(0);
            s.due("none any more", x.queueLength(0), 0);
        });
        refused("OUT_OF_RANGE", HelpDesk::queueLength, 0, 3, HelpDesk.OUT_OF_RANGE);
    }

    private void nextTicket() {
        s.under("Promise 36: nextTicket");
        s.of("- `level`: 0 to 3", () -> {
            HelpDesk x = twoLevels();
            s.due("0", x.nextTicket(0), 0);
            s.due("3", x.nextTicket(3), 55);
        });
        s.of("Returns the first QUEUED ticket of that level in the urgency order", () -> {
            HelpDesk x = Desks.calm(60);
            x.setPriority(59, 2);
            s.due("the highest priority", x.nextTicket(0), 59);
            x.setPriority(58, 2);
            s.due("equal differences", x.nextTicket(0), 58);
            x.pause(58);
            x.pass(1);
            x.resume(58);
            s.due("59 is in work", x.stateOf(59), Desks.IN_WORK);
            x.setAgents(0, 0);
            s.due("the lower difference", x.nextTicket(0), 59);
            s.due("as it will be taken", x.setAgents(0, 1) + x.pass(1) + x.stateOf(59), Desks.IN_WORK);
        });
        s.of("NONE if there is none", () -> {
            s.due("an empty desk", new HelpDesk().nextTicket(0), HelpDesk.NONE);
            HelpDesk x = Desks.ofEveryState();
            s.due("another level", x.nextTicket(1), HelpDesk.NONE);
            x.pause(0);
            s.due("none but of another state", x.nextTicket(0), HelpDesk.NONE);
        });
        refused("OUT_OF_RANGE", HelpDesk::nextTicket, 0, 3, HelpDesk.OUT_OF_RANGE);
    }

    private void busyAgents() {
        s.under("Promise 37: busyAgents");
        s.of("- `level`: 0 to 3", () -> {
            HelpDesk x = twoLevels();
            x.setAgents(3, 4);
            x.pass(1);
            s.due("0", x.busyAgents(0), 1);
            s.due("3", x.busyAgents(3), 4);
        });
        s.of("Returns the number of tickets of that level that are IN WORK", () -> {
            HelpDesk x = Desks.calm(60);
            x.setAgents(0, 9);
            s.due("none yet", x.busyAgents(0), 0);
            x.pass(1);
            s.due("nine", x.busyAgents(0), 9);
            s.due("of another level", x.busyAgents(1), 0);
            x.climb(0);
            x.pause(1);
            x.solve(2);
            x.join(3, 59);
            s.due("five", x.busyAgents(0), 5);
        });
        refused("OUT_OF_RANGE", HelpDesk::busyAgents, 0, 3, HelpDesk.OUT_OF_RANGE);
    }

    private void suggestRoot() {
        s.under("Promise 38: suggestRoot");
        s.of("Looks for a ticket to which a ticket may be joined", () -> {
            HelpDesk x = Desks.calm(0);
            x.addKind(1, 1, 1, 0, 0, true);
            x.report(0, 1, 5, 1);
            x.report(0, 1, 6, 1);
            x.report(1, 1, 5, 1);
            x.pass(240);
            x.report(0, 2, 5, 2);
            x.report(0, 2, 6, 2);
            x.report(1, 2, 5, 2);
            s.due("240 minutes, the same kind and subject", x.suggestRoot(3), 0);
            s.due("the same subject", x.suggestRoot(4), 1);
            s.due("the same kind, though that one is solved", x.suggestRoot(5), HelpDesk.NONE);
            s.due("no higher number", x.suggestRoot(0), HelpDesk.NONE);
            x.pass(1);
            x.report(0, 2, 5, 2);
            s.due("241 minutes", x.suggestRoot(6), 3);
            s.due("not the present time counts", x.suggestRoot(3), 0);
            x.addKind(1, 1, 1, 0, 0, true);
            x.report(2, 2, 5, 2);
            s.due("another kind", x.suggestRoot(7), HelpDesk.NONE);
            x.report(2, 2, 4, 2);
            s.due("another subject", x.suggestRoot(8), HelpDesk.NONE);
            HelpDesk y = Desks.ofEveryState();
            s.due("queued", y.suggestRoot(6), 0);
            y.solve(0);
            s.due("in work", y.suggestRoot(6), 1);
            y.solve(1);
            s.due("paused", y.suggestRoot(6), 2);
            y.reopen(3);
            y.solve(2);
            s.due("reopened", y.suggestRoot(6), 3);
            y.solve(3);
            s.due("neither a solved one nor a twin", y.suggestRoot(6), HelpDesk.NONE);
            kindsAndSubjects();
        });
        s.of("- `ticket`: the number of a ticket, which may have any state", () -> {
            HelpDesk x = Desks.ofEveryState();
            for (int t = 1; t < 7; t++) {
                s.due("ticket " + t, x.suggestRoot(t), 0);
            }
            HelpDesk y = Desks.calm(60);
            s.due("ticket 0", y.suggestRoot(0), HelpDesk.NONE);
            s.due("ticket 59", y.suggestRoot(59), 0);
        });
    }

    /** Three kinds and four subjects, in all combinations but the second one of each. */
    private void kindsAndSubjects() {
        HelpDesk x = Desks.calm(0);
        x.addKind(10080, 10080, 480, 0, 0, true);
        x.addKind(10080, 10080, 480, 0, 0, true);
        int[] subjects = {0, 1, 998, 999};
        for (int t = 0; t < 60; t++) {
            x.report(t % 3, t, subjects[t / 3 * 7 % 4], 0);
        }
        for (int t = 0; t < 60; t++) {
            int due = HelpDesk.NONE;
            for (int lower = t - 1; lower >= 0; lower--) {
                if (lower % 3 == t % 3 && lower / 3 * 7 % 4 == t / 3 * 7 % 4) {
                    due = lower;
                }
            }
            s.due("ticket " + t, x.suggestRoot(t), due);
        }
    }

    private void suggestRootAnswers() {
        s.of("Returns the lowest such ticket", () -> {
            HelpDesk x = Desks.calm(60);
            for (int t = 0; t < 58; t++) {
                s.due("the lowest", x.suggestRoot(59), t);
                x.solve(t);
            }
            s.due("the last one", x.suggestRoot(59), 58);
        });
        s.of("NONE if there is none", () -> {
            HelpDesk x = Desks.calm(2);
            s.due("none is lower", x.suggestRoot(0), HelpDesk.NONE);
            x.solve(0);
            s.due("none but a solved one", x.suggestRoot(1), HelpDesk.NONE);
        });
        refused("NO_SUCH_TICKET", HelpDesk::suggestRoot, 0, 6, HelpDesk.NO_SUCH_TICKET);
    }

    private void customerTickets() {
        s.under("Promise 39: customerTickets");
        s.of("- `customer`: 0 to 99", () -> {
            HelpDesk x = Desks.calm(0);
            s.due("0, none", x.customerTickets(0), 0);
            s.due("99, none", x.customerTickets(99), 0);
            x.report(0, 99, 1, 1);
            x.report(0, 0, 1, 1);
            s.due("0", x.customerTickets(0), 2);
            s.due("99", x.customerTickets(99), 1);
        });
        s.of("Returns the tickets of the customer that are not SOLVED as a bit mask", () -> {
            HelpDesk x = Desks.calm(60);
            s.due("all sixty", x.customerTickets(1), (1L << 60) - 1);
            for (int t = 0; t < 59; t++) {
                x.solve(t);
            }
            s.due("the last one", x.customerTickets(1), 1L << 59);
            s.due("of another customer", x.customerTickets(2), 0);
            HelpDesk y = Desks.ofEveryState();
            s.due("queued, in work, paused, a twin", y.customerTickets(1), 0b1010111);
            y.reopen(3);
            s.due("reopened", y.customerTickets(1), 0b1111111);
        });
        refused("OUT_OF_RANGE", HelpDesk::customerTickets, 0, 99, HelpDesk.OUT_OF_RANGE);
    }

    /** Six kinds whose targets are the same; one ticket of kind 0 and two of kind 5, one of these a twin. */
    private static HelpDesk sixKinds(int response, int resolve) {
        HelpDesk x = new HelpDesk();
        for (int kind = 0; kind < 6; kind++) {
            x.addKind(response, resolve, 480, 0, 0, true);
        }
        x.report(0, 1, 1, 1);
        x.report(5, 1, 1, 1);
        x.report(5, 1, 1, 1);
        x.join(2, 1);
        return x;
    }

    private void kindNumbers(Call call) {
        s.of("- `kind`: the number of a kind, or NONE for all kinds", () -> {
            HelpDesk x = sixKinds(5, 5);
            x.pass(6);
            s.due("kind 0", call.of(x, 0), 1);
            s.due("kind 1", call.of(x, 1), 0);
            s.due("kind 5", call.of(x, 5), 2);
            s.due("all", call.of(x, HelpDesk.NONE), 3);
            s.due("all of none", call.of(new HelpDesk(), HelpDesk.NONE), 0);
        });
        s.of("NO_SUCH_KIND", () -> {
            s.unchanged(new HelpDesk(), "kind 0 of none", d -> call.of(d, 0), HelpDesk.NO_SUCH_KIND);
            for (int kind : new int[] {-2, 6, Integer.MIN_VALUE, Integer.MAX_VALUE}) {
                s.unchanged(sixKinds(5, 5), "kind " + kind, d -> call.of(d, kind), HelpDesk.NO_SUCH_KIND);
            }
            s.unchanged(Desks.calm(1), "kind 1 of one", d -> call.of(d, 1), HelpDesk.NO_SUCH_KIND);
        });
    }

    private void breaches() {
        s.under("Promise 40: responseBreaches");
        kindNumbers(HelpDesk::responseBreaches);
        s.of("Returns the number of tickets of that kind that had a response breach", () -> {
            countOf(sixKinds(5, 10080), HelpDesk::responseBreaches, HelpDesk::resolveBreaches);
            HelpDesk x = Desks.open(0, 10080, 480, 0, 0);
            Desks.report(x, 60);
            x.pass(1);
            s.due("all sixty but the one in work", x.responseBreaches(0), 59);
        });
        s.under("Promise 41: resolveBreaches");
        kindNumbers(HelpDesk::resolveBreaches);
        s.of("Returns the number of tickets of that kind that had a resolve breach", () -> {
            countOf(sixKinds(10080, 5), HelpDesk::resolveBreaches, HelpDesk::responseBreaches);
            HelpDesk x = Desks.open(10080, 0, 480, 0, 0);
            Desks.report(x, 60);
            x.pass(1);
            s.due("all sixty", x.resolveBreaches(0), 60);
        });
    }

    /** The clock that the call looks at has the target 5, the other one a target of a week. */
    private void countOf(HelpDesk x, Call call, Call other) {
        x.pass(5);
        s.due("at the target", call.of(x, 5), 0);
        x.pass(1);
        s.due("above it", call.of(x, 5), 2);
        x.solve(1);
        x.pass(100);
        s.due("solved ones too, once each", call.of(x, 5), 2);
        s.due("no other breaches", other.of(x, 5), 0);
    }

    /** So many tickets, solved from the highest number down, with the resolve clocks 1, 2, 3 and so on. */
    private static HelpDesk solved(int tickets) {
        HelpDesk x = Desks.calm(tickets);
        for (int t = tickets - 1; t >= 0; t--) {
            x.pass(1);
            x.solve(t);
        }
        return x;
    }

    private void resolvePercentile() {
        s.under("Promise 42: resolvePercentile");
        s.of("Looks at the resolve clocks of all SOLVED tickets in ascending order", () -> {
            HelpDesk x = solved(3);
            x.report(0, 1, 1, 1);
            x.pass(50);
            s.due("the least of the highest number", x.resolvePercentile(1), 1);
            s.due("the greatest, without the ticket in work", x.resolvePercentile(100), 3);
            x.reopen(0);
            s.due("without the reopened one", x.resolvePercentile(100), 2);
            HelpDesk y = Desks.calm(5);
            for (int t = 0; t < 5; t++) {
                y.pass(1);
                y.solve(t);
            }
            for (int rank = 1; rank <= 5; rank++) {
                s.due("the lowest number first", y.resolvePercentile(20 * rank), rank);
            }
            HelpDesk z = Desks.calm(9);
            z.pause(0);
            z.pass(50);
            z.pause(8);
            z.pass(50);
            z.solve(4);
            z.pass(50);
            z.solve(6);
            z.pass(50);
            for (int p = 1; p <= 100; p++) {
                s.due("others are below, between and above, " + p, z.resolvePercentile(p), p <= 50 ? 100 : 150);
            }
        });
        s.of("Let c be their number and r = p * c / 100, rounded up", () -> {
            int[][] due = {{1, 1, 1}, {1, 100, 1}, {2, 50, 1}, {2, 51, 2}, {3, 33, 1}, {3, 34, 2}, {3, 66, 2},
                {3, 67, 3}, {60, 1, 1}, {60, 2, 2}, {60, 5, 3}, {60, 50, 30}, {60, 51, 31}, {60, 98, 59},
                {60, 99, 60}, {60, 100, 60}};
            for (int[] d : due) {
                s.due(d[1] + " of " + d[0], solved(d[0]).resolvePercentile(d[1]), d[2]);
            }
            for (int p = 1; p <= 100; p++) {
                s.due(p + " of 7", solved(7).resolvePercentile(p), (7 * p + 99) / 100);
            }
        });
        s.of("- `p`: 1 to 100", () -> {
            s.due("1", solved(60).resolvePercentile(1), 1);
            s.due("100", solved(60).resolvePercentile(100), 60);
            s.due("0", solved(60).resolvePercentile(0), HelpDesk.OUT_OF_RANGE);
            s.due("101", solved(60).resolvePercentile(101), HelpDesk.OUT_OF_RANGE);
        });
        s.of("Returns the r-th of these clocks, counted from 1", () -> {
            HelpDesk x = Desks.calm(4);
            x.solve(3);
            s.due("a clock of 0", x.resolvePercentile(100), 0);
            x.pass(5);
            x.join(2, 1);
            x.solve(1);
            x.pass(10075);
            int[][] due = {{25, 0}, {26, 5}, {50, 5}, {75, 5}, {76, 480}, {100, 480}};
            for (int[] d : due) {
                s.due("equal ones among them, " + d[0], x.resolvePercentile(d[0]), d[1]);
            }
        });
        s.of("NONE if there are no SOLVED tickets", () -> {
            s.due("an empty desk", new HelpDesk().resolvePercentile(100), HelpDesk.NONE);
            HelpDesk x = Desks.calm(60);
            s.due("none solved", x.resolvePercentile(1), HelpDesk.NONE);
            x.solve(7);
            x.reopen(7);
            s.due("none any more", x.resolvePercentile(100), HelpDesk.NONE);
        });
        refused("OUT_OF_RANGE", HelpDesk::resolvePercentile, 1, 100, HelpDesk.OUT_OF_RANGE);
    }
}
