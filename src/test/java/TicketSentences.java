import java.util.Random;

/** The promises 20 to 34: time, and what is told of a ticket. */
final class TicketSentences extends Group {
    TicketSentences(Sentences sentences) {
        super(sentences);
    }

    @Override
    void test() {
        pass();
        nowAndCount();
        state();
        kind();
        level();
        priority();
        progress();
        root();
        twins();
        reportedAt();
        answeredAt();
        solvedAt();
        responseClock();
        resolveClock();
    }

    /** The same desk twice, of short targets and efforts and of all states; its minutes pass at once or one by one. */
    private void atOnceOrOneByOne(int variant) {
        HelpDesk x = busy(new Random(variant));
        HelpDesk y = busy(new Random(variant));
        int minutes = 50 + 3 * variant;
        int solved = 0;
        for (int i = 0; i < minutes; i++) {
            solved += y.pass(1);
        }
        s.due("solved, variant " + variant, x.pass(minutes), solved);
        s.due("at once or one by one, variant " + variant, Desks.picture(x).equals(Desks.picture(y)), true);
    }

    private static HelpDesk busy(Random random) {
        HelpDesk x = new HelpDesk();
        for (int kind = 0; kind < 4; kind++) {
            x.addKind(random.nextInt(60), random.nextInt(90), 1 + random.nextInt(60), random.nextInt(4),
                    random.nextInt(3) * random.nextInt(50), random.nextBoolean());
        }
        int opening = random.nextInt(200);
        x.setDay(0, opening, opening + 1 + random.nextInt(200));
        x.setDay(1, 0, 1 + random.nextInt(40));
        x.setDay(random.nextInt(2), 0, random.nextInt(2) * 1440);
        x.pass(1 + random.nextInt(1430));
        for (int level = 0; level < 4; level++) {
            x.setAgents(level, random.nextInt(3));
        }
        for (int i = 0; i < 30; i++) {
            x.report(random.nextInt(4), 1, 1, random.nextInt(4));
            change(x, random.nextInt(7), random.nextInt(x.ticketCount()), random.nextInt(x.ticketCount()));
            if (random.nextInt(4) == 0) {
                x.pass(1 + random.nextInt(9));
            }
        }
        return x;
    }

    private static void change(HelpDesk x, int which, int ticket, int other) {
        switch (which) {
            case 0: x.pause(ticket); break;
            case 1: x.resume(ticket); break;
            case 2: x.climb(ticket); break;
            case 3: x.solve(ticket); break;
            case 4: x.reopen(ticket); break;
            case 5: x.join(ticket, other); break;
            default: x.part(ticket);
        }
    }

    private void pass() {
        s.under("Promise 20: pass");
        s.of("Lets minutes pass", () -> {
            HelpDesk x = Desks.calm(1);
            x.pass(7);
            s.due("now", x.now(), 7);
            s.due("work is done", x.progress(0), 7);
            s.due("no change is recorded", x.historyLength(), 2);
            for (int variant = 0; variant < 150; variant++) {
                atOnceOrOneByOne(variant);
            }
        });
        s.of("- `minutes`: how many, at least 1; the time then must be at most 10080", () -> {
            HelpDesk x = Desks.calm(1);
            for (int minutes : Desks.beside(1, 10080)) {
                s.unchanged(x, "pass " + minutes, d -> d.pass(minutes), HelpDesk.OUT_OF_RANGE);
            }
            s.due("1", x.pass(1), 0);
            for (int minutes : Desks.beside(1, 10079)) {
                s.unchanged(x, "pass " + minutes, d -> d.pass(minutes), HelpDesk.OUT_OF_RANGE);
            }
            s.due("to 10080", x.pass(10079), 1);
            s.due("now", x.now(), 10080);
            for (int minutes : Desks.beside(1, 0)) {
                s.unchanged(x, "pass " + minutes, d -> d.pass(minutes), HelpDesk.OUT_OF_RANGE);
            }
            s.due("a whole week", new HelpDesk().pass(10080), 0);
        });
        s.of("Returns the number of tickets that became SOLVED in these minutes", () -> {
            HelpDesk x = Desks.open(10080, 10080, 10, 0, 0);
            Desks.report(x, 60);
            for (int t = 11; t < 60; t++) {
                x.join(t, 10);
            }
            x.solve(0);
            s.due("solved before", x.pass(9), 0);
            s.due("one", x.pass(1), 1);
            s.due("none in the next minute", x.pass(1), 0);
            s.due("several", x.pass(19), 2);
            x.solve(4);
            s.due("one solved by hand does not count", x.pass(10), 1);
            x.setPriority(10, 3);
            s.due("with 49 twins", x.pass(10), 50);
            s.due("the rest", x.pass(1000), 4);
        });
        s.of("OUT_OF_RANGE", () -> {
            HelpDesk x = new HelpDesk();
            x.pass(5000);
            s.unchanged(x, "the greatest", d -> d.pass(Integer.MAX_VALUE), HelpDesk.OUT_OF_RANGE);
            s.unchanged(x, "one too many", d -> d.pass(5081), HelpDesk.OUT_OF_RANGE);
            s.due("just as many", x.pass(5080), 0);
        });
    }

    private void nowAndCount() {
        s.under("Promise 21: now");
        s.of("Returns the present time", () -> {
            HelpDesk x = new HelpDesk();
            s.due("at first", x.now(), 0);
            x.pass(10080);
            s.due("at last", x.now(), 10080);
        });
        s.under("Promise 22: ticketCount");
        s.of("Returns the number of tickets", () -> {
            HelpDesk x = Desks.calm(0);
            for (int t = 0; t < 60; t++) {
                s.due("tickets", x.ticketCount(), t);
                x.report(0, 1, 1, 1);
            }
            x.report(0, 1, 1, 1);
            s.due("no more than 60", x.ticketCount(), 60);
            x.solve(0);
            s.due("solved ones too", x.ticketCount(), 60);
        });
    }

    /** The sentences that stand with every question about a ticket; the first and the last of sixty answer so. */
    private void numbers(Call call, long first, long last) {
        s.of("- `ticket`: the number of a ticket", () -> {
            HelpDesk x = Desks.calm(58);
            x.addKind(1, 1, 1, 0, 0, true);
            x.pass(3);
            x.report(0, 1, 1, 1);
            x.report(1, 1, 1, 3);
            x.join(58, 0);
            x.pass(1);
            s.due("ticket 0", call.of(x, 0), first);
            s.due("ticket 59", call.of(x, 59), last);
        });
        noSuchTicket(call);
    }

    private void state() {
        s.under("Promise 23: stateOf");
        s.of("Returns its state", () -> {
            HelpDesk x = Desks.ofEveryState();
            int[] due = {0, 1, 2, 3, 4, 3, 0};
            for (int t = 0; t < due.length; t++) {
                s.due("ticket " + t, x.stateOf(t), due[t]);
            }
        });
        numbers(HelpDesk::stateOf, Desks.IN_WORK, Desks.QUEUED);
    }

    private void kind() {
        s.under("Promise 24: kindOf");
        s.of("Returns its kind", () -> {
            HelpDesk x = new HelpDesk();
            for (int kind = 0; kind < 6; kind++) {
                x.addKind(1, 1, 1, 0, 0, true);
            }
            for (int kind = 5; kind >= 0; kind--) {
                x.report(kind, 1, 1, 1);
                s.due("kind", x.kindOf(5 - kind), kind);
            }
        });
        numbers(HelpDesk::kindOf, 0, 1);
    }

    private void level() {
        s.under("Promise 25: levelOf");
        s.of("Returns its level", () -> {
            HelpDesk x = Desks.calm(1);
            for (int level = 0; level < 4; level++) {
                s.due("level", x.levelOf(0), level);
                x.climb(0);
            }
            x.solve(0);
            s.due("once solved", x.levelOf(0), 3);
        });
        numbers(HelpDesk::levelOf, 0, 0);
    }

    private void priority() {
        s.under("Promise 26: priorityOf");
        s.of("Returns its priority", () -> {
            HelpDesk x = Desks.calm(0);
            for (int priority = 0; priority < 4; priority++) {
                x.report(0, 1, 1, priority);
                s.due("reported with it", x.priorityOf(priority), priority);
                x.setPriority(0, priority);
                s.due("set", x.priorityOf(0), priority);
            }
        });
        numbers(HelpDesk::priorityOf, 1, 3);
    }

    private void progress() {
        s.under("Promise 27: progress");
        s.of("Returns its progress", () -> {
            HelpDesk x = Desks.calm(1);
            s.due("at first", x.progress(0), 0);
            x.pass(479);
            s.due("the greatest of a ticket in work", x.progress(0), 479);
            x.pass(1);
            s.due("solved", x.progress(0), 480);
            x.reopen(0);
            s.due("reopened", x.progress(0), 0);
        });
        numbers(HelpDesk::progress, 4, 0);
    }

    private void root() {
        s.under("Promise 28: rootOf");
        s.of("Returns its root", () -> {
            HelpDesk x = Desks.calm(60);
            x.join(59, 0);
            s.due("the first ticket", x.rootOf(59), 0);
            x.join(1, 58);
            s.due("another", x.rootOf(1), 58);
        });
        s.of("NONE if it has none", () -> {
            HelpDesk x = Desks.ofEveryState();
            for (int t : new int[] {0, 1, 2, 3, 6}) {
                s.due("ticket " + t, x.rootOf(t), HelpDesk.NONE);
            }
            x.part(4);
            s.due("parted", x.rootOf(4), HelpDesk.NONE);
        });
        numbers(HelpDesk::rootOf, HelpDesk.NONE, HelpDesk.NONE);
        s.of("A twin that was solved with its root keeps the root", () -> {
            HelpDesk x = Desks.ofEveryState();
            s.due("solved", x.rootOf(5), 3);
            x.reopen(3);
            s.due("reopened", x.rootOf(5), 3);
            HelpDesk y = Desks.open(10080, 10080, 1, 0, 0);
            Desks.report(y, 2);
            y.join(0, 1);
            y.pass(1);
            s.due("solved by an agent", y.rootOf(0), 1);
        });
    }

    private void twins() {
        s.under("Promise 29: twins");
        s.of("Returns the tickets whose root it is as a bit mask (bit t for ticket t)", () -> {
            HelpDesk x = Desks.calm(60);
            s.due("none", x.twins(0), 0);
            long mask = 0;
            for (int t = 59; t >= 1; t--) {
                x.join(t, 0);
                mask |= 1L << t;
                s.due("with ticket " + t, x.twins(0), mask);
            }
            x.solve(0);
            s.due("solved", x.twins(0), mask);
            s.due("of a twin", x.twins(59), 0);
            HelpDesk y = Desks.calm(60);
            y.join(0, 59);
            s.due("bit 0", y.twins(59), 1);
        });
        numbers(HelpDesk::twins, 1L << 58, 0);
    }

    private void reportedAt() {
        s.under("Promise 30: reportedAt");
        s.of("Returns the time at which it was reported", () -> {
            HelpDesk x = Desks.calm(1);
            x.pass(10080);
            x.report(0, 1, 1, 1);
            x.solve(0);
            x.reopen(0);
            s.due("at the first time", x.reportedAt(0), 0);
            s.due("at the last time", x.reportedAt(1), 10080);
        });
        numbers(HelpDesk::reportedAt, 0, 3);
    }

    private void answeredAt() {
        s.under("Promise 31: answeredAt");
        s.of("Returns the time at which it was answered", () -> {
            HelpDesk x = new HelpDesk();
            x.addKind(10080, 10080, 1, 0, 0, true);
            x.setDay(0, 0, 1440);
            x.setDay(6, 1439, 1440);
            x.report(0, 1, 1, 1);
            x.pass(10079);
            x.report(0, 1, 1, 1);
            s.due("in the first minute", x.answeredAt(0), 0);
            x.pass(1);
            s.due("in the last minute", x.answeredAt(1), 10079);
        });
        s.of("NONE if it has not been", () -> {
            HelpDesk x = Desks.ofEveryState();
            for (int t : new int[] {0, 2, 3, 4, 5, 6}) {
                s.due("ticket " + t, x.answeredAt(t), HelpDesk.NONE);
            }
            HelpDesk y = Desks.calm(2);
            y.join(0, 1);
            y.pass(1);
            s.due("a twin whose root has been", y.answeredAt(0), HelpDesk.NONE);
        });
        numbers(HelpDesk::answeredAt, 0, HelpDesk.NONE);
    }

    private void solvedAt() {
        s.under("Promise 32: solvedAt");
        s.of("Returns the time at which it was solved", () -> {
            HelpDesk x = Desks.open(10080, 10080, 1, 0, 0);
            x.setDay(6, 1439, 1440);
            Desks.report(x, 2);
            x.solve(0);
            s.due("at the first time", x.solvedAt(0), 0);
            x.setAgents(0, 0);
            x.pass(10079);
            x.setAgents(0, 1);
            x.pass(1);
            s.due("at the last time", x.solvedAt(1), 10080);
        });
        s.of("NONE if it is not SOLVED", () -> {
            HelpDesk x = Desks.ofEveryState();
            for (int t : new int[] {0, 1, 2, 4, 6}) {
                s.due("ticket " + t, x.solvedAt(t), HelpDesk.NONE);
            }
            x.reopen(3);
            s.due("reopened", x.solvedAt(3), HelpDesk.NONE);
            s.due("its twin", x.solvedAt(5), HelpDesk.NONE);
        });
        numbers(HelpDesk::solvedAt, HelpDesk.NONE, HelpDesk.NONE);
    }

    private void responseClock() {
        s.under("Promise 33: responseClock");
        s.of("Returns its response clock", () -> {
            HelpDesk x = Desks.calm(2);
            s.due("at first", x.responseClock(1), 0);
            x.setPriority(0, 3);
            x.pass(480);
            s.due("eight hours", x.responseClock(1), 480);
            s.due("answered at once", x.responseClock(0), 0);
            x.setAgents(0, 0);
            x.pass(9600);
            s.due("a week", x.responseClock(1), 10080);
        });
        numbers(HelpDesk::responseClock, 0, 1);
    }

    private void resolveClock() {
        s.under("Promise 34: resolveClock");
        s.of("Returns its resolve clock", () -> {
            HelpDesk x = Desks.calm(2);
            s.due("at first", x.resolveClock(1), 0);
            x.setPriority(0, 3);
            x.pass(500);
            s.due("solved after eight hours", x.resolveClock(0), 480);
            s.due("still running", x.resolveClock(1), 500);
            x.setAgents(0, 0);
            x.pass(9580);
            s.due("a week", x.resolveClock(1), 10080);
        });
        numbers(HelpDesk::resolveClock, 4, 1);
    }
}
