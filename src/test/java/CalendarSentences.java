/** The promises 1 to 10: a new object, the calendar, kinds and agents. */
final class CalendarSentences extends Group {
    private static final int WRONG = HelpDesk.OUT_OF_RANGE;

    CalendarSentences(Sentences sentences) {
        super(sentences);
    }

    @Override
    void test() {
        newObject();
        setDay();
        setDayAnswers();
        hours();
        isOpen();
        openMinutes();
        addKind();
        addKindAnswers();
        setAgents();
        setAgentsAnswers();
    }

    private void newObject() {
        s.under("Promise 1: A new object");
        s.of("Creates a desk at time 0", () -> {
            HelpDesk x = new HelpDesk();
            s.due("time, kinds, tickets", x.now() + x.kindCount() + x.ticketCount(), 0);
            s.due("history, log, text", x.historyLength() + x.logSize() + Desks.textLength(x), 0);
            s.due("the first calendar", x.openMinutes(0, 10080), 2400);
            for (int level = 0; level < 4; level++) {
                s.due("agents", x.agents(level), 1);
            }
            s.unchanged(x, "no saved state 0", d -> d.restore(0) ? 1 : 0, 0);
            s.unchanged(x, "no saved state 1", d -> d.restore(1) ? 1 : 0, 0);
            s.unchanged(x, "no script", HelpDesk::runScript, 0);
            HelpDesk used = Desks.ofEveryState();
            used.save(0);
            s.due("another object changes nothing", Desks.picture(new HelpDesk()).equals(Desks.picture(x)), true);
            s.due("no saved state of another object", x.restore(0), false);
        });
    }

    private void setDay() {
        s.under("Promise 2: setDay");
        s.of("Sets the opening hours of a day", () -> {
            HelpDesk x = new HelpDesk();
            s.due("a day", x.setDay(3, 100, 200), 0);
            s.due("its opening", x.openingMinute(3), 100);
            s.due("its closing", x.closingMinute(3), 200);
            s.due("the other days", x.openMinutes(0, 10080), 4 * 480 + 100);
            s.due("no event", x.logSize(), 0);
        });
        s.of("- `day`: 0 to 6", () -> {
            HelpDesk x = new HelpDesk();
            s.due("day 0", x.setDay(0, 1, 2), 0);
            s.due("day 6", x.setDay(6, 1, 2), 0);
            for (int day : Desks.beside(0, 6)) {
                s.unchanged(x, "day " + day, d -> d.setDay(day, 1, 2), WRONG);
            }
        });
        s.of("- `opening`: the opening minute, 0 to 1439, or 0 if", () -> {
            HelpDesk x = new HelpDesk();
            s.due("0", x.setDay(0, 0, 1), 0);
            s.due("1439", x.setDay(1, 1439, 1440), 0);
            s.due("closed", x.setDay(2, 0, 0), 0);
            s.due("open minutes", x.openMinutes(0, 3 * 1440), 2);
            s.unchanged(x, "-1", d -> d.setDay(0, -1, 1), WRONG);
            s.unchanged(x, "-1, closed", d -> d.setDay(0, -1, 0), WRONG);
            s.unchanged(x, "1440", d -> d.setDay(0, 1440, 1440), WRONG);
            s.unchanged(x, "1440, to a minute behind the day", d -> d.setDay(0, 1440, 1441), WRONG);
            s.unchanged(x, "1440, closed", d -> d.setDay(0, 1440, 0), WRONG);
            s.unchanged(x, "the least", d -> d.setDay(0, Integer.MIN_VALUE, 1), WRONG);
            s.unchanged(x, "the greatest", d -> d.setDay(0, Integer.MAX_VALUE, Integer.MIN_VALUE), WRONG);
        });
        s.of("- `closing`: the closing minute, opening + 1 to 1440, or 0", () -> {
            HelpDesk x = new HelpDesk();
            s.due("opening + 1", x.setDay(0, 700, 701), 0);
            s.due("1440", x.setDay(0, 700, 1440), 0);
            s.due("0 with opening 0", x.setDay(0, 0, 0), 0);
            s.unchanged(x, "opening", d -> d.setDay(0, 700, 700), WRONG);
            s.unchanged(x, "opening - 1", d -> d.setDay(0, 700, 699), WRONG);
            s.unchanged(x, "0 with opening 1", d -> d.setDay(0, 1, 0), WRONG);
            s.unchanged(x, "1441", d -> d.setDay(0, 700, 1441), WRONG);
            s.unchanged(x, "-1 with opening 0", d -> d.setDay(0, 0, -1), WRONG);
            s.unchanged(x, "the least", d -> d.setDay(0, 0, Integer.MIN_VALUE), WRONG);
            s.unchanged(x, "the greatest", d -> d.setDay(0, 0, Integer.MAX_VALUE), WRONG);
        });
    }

    private void setDayAnswers() {
        s.of("Returns 0", () -> {
            HelpDesk x = new HelpDesk();
            s.due("other hours", x.setDay(0, 600, 1020), 0);
            s.due("the same hours", x.setDay(0, 600, 1020), 0);
            s.due("both recorded", x.historyLength(), 2);
        });
        s.of("OUT_OF_RANGE", () -> {
            HelpDesk x = new HelpDesk();
            s.unchanged(x, "all wrong", d -> d.setDay(7, -1, 1441), WRONG);
            Desks.fillHistory(x);
            s.unchanged(x, "before full", d -> d.setDay(7, 0, 0), WRONG);
        });
        s.of("FULL", () -> {
            HelpDesk x = new HelpDesk();
            for (int i = 0; i < 200; i++) {
                s.due("change " + i, x.setDay(6, 0, 0), 0);
            }
            s.unchanged(x, "the 201st", d -> d.setDay(6, 1, 2), HelpDesk.FULL);
        });
    }

    private void hours() {
        s.under("Promise 3: openingMinute");
        hoursOf(HelpDesk::openingMinute, "Returns the opening minute", 1, 540, 1439);
        s.under("Promise 4: closingMinute");
        hoursOf(HelpDesk::closingMinute, "Returns the closing minute", 2, 1020, 1440);
    }

    /** Due are the hours of a day from 1 to 2, of the first calendar, and of a day that opens in its last minute. */
    private void hoursOf(Call call, String returns, int set, int first, int last) {
        s.of("- `day`: 0 to 6", () -> {
            for (int day : new int[] {0, 6}) {
                HelpDesk x = new HelpDesk();
                x.setDay(day, 1, 2);
                s.due("day " + day, call.of(x, day), set);
                s.due("another day", call.of(x, 1), first);
            }
        });
        s.of(returns, () -> {
            HelpDesk x = new HelpDesk();
            s.due("at first", call.of(x, 4), first);
            s.due("of a closed day", call.of(x, 5), 0);
            x.setDay(5, 1439, 1440);
            s.due("the greatest", call.of(x, 5), last);
        });
        refused("OUT_OF_RANGE", call, 0, 6, WRONG);
    }

    private void isOpen() {
        s.under("Promise 5: isOpen");
        s.of("- `minute`: 0 to 10079", () -> {
            HelpDesk x = new HelpDesk();
            x.setDay(0, 0, 1440);
            s.due("0", x.isOpen(0), 1);
            s.due("10079", x.isOpen(10079), 0);
            x.setDay(6, 0, 1440);
            s.due("10079", x.isOpen(10079), 1);
        });
        s.of("Returns 1 if the minute is open by the present calendar, otherwise 0", () -> {
            HelpDesk x = new HelpDesk();
            x.pass(2000);
            int[][] due = {{539, 0}, {540, 1}, {1019, 1}, {1020, 0}};
            for (int[] d : due) {
                s.due("minute " + d[0], x.isOpen(d[0]), d[1]);
            }
            x.setDay(0, 1019, 1021);
            int[][] later = {{540, 0}, {1018, 0}, {1019, 1}, {1020, 1}, {1021, 0}};
            for (int[] d : later) {
                s.due("minute " + d[0] + " by the present calendar", x.isOpen(d[0]), d[1]);
            }
        });
        refused("OUT_OF_RANGE", HelpDesk::isOpen, 0, 10079, WRONG);
    }

    private void openMinutes() {
        s.under("Promise 6: openMinutes");
        s.of("- `from`: the first minute, 0 to 10080", () -> {
            HelpDesk x = new HelpDesk();
            x.setDay(6, 0, 1440);
            s.due("0", x.openMinutes(0, 541), 1);
            s.due("10079", x.openMinutes(10079, 10080), 1);
            s.due("10080", x.openMinutes(10080, 10080), 0);
            s.due("-1", x.openMinutes(-1, 541), WRONG);
            s.due("10081", x.openMinutes(10081, 10080), WRONG);
            s.due("10081 to 10081", x.openMinutes(10081, 10081), WRONG);
        });
        s.of("- `to`: the minute behind the last one, from to 10080", () -> {
            HelpDesk x = new HelpDesk();
            x.setDay(6, 0, 1440);
            s.due("from", x.openMinutes(600, 600), 0);
            s.due("from + 1", x.openMinutes(600, 601), 1);
            s.due("from - 1", x.openMinutes(600, 599), WRONG);
            s.due("10080", x.openMinutes(0, 10080), 5 * 480 + 1440);
            s.due("10081", x.openMinutes(0, 10081), WRONG);
            s.due("0 to 0", x.openMinutes(0, 0), 0);
        });
        s.of("Returns the number of open minutes from the first one on and before", () -> {
            HelpDesk x = new HelpDesk();
            int[][] due = {{540, 1020, 480}, {541, 1020, 479}, {540, 1019, 479}, {539, 1021, 480}, {0, 540, 0},
                {1020, 1980, 0}, {1019, 1981, 2}, {600, 10080, 2340}, {7200, 10080, 0}, {700, 710, 10}};
            for (int[] d : due) {
                s.due(d[0] + " to " + d[1], x.openMinutes(d[0], d[1]), d[2]);
            }
            x.pass(3000);
            x.setDay(0, 0, 0);
            s.due("by the present calendar", x.openMinutes(0, 10080), 4 * 480);
        });
        s.of("OUT_OF_RANGE", () -> {
            for (int minute : Desks.beside(0, 10080)) {
                s.unchanged(new HelpDesk(), "from " + minute, d -> d.openMinutes(minute, 10080), WRONG);
                s.unchanged(new HelpDesk(), "to " + minute, d -> d.openMinutes(0, minute), WRONG);
            }
            s.due("from the greatest", new HelpDesk().openMinutes(Integer.MAX_VALUE, Integer.MAX_VALUE), WRONG);
            s.due("from the least", new HelpDesk().openMinutes(Integer.MIN_VALUE, Integer.MIN_VALUE), WRONG);
        });
    }

    /** Each number of a kind within its range is taken, and each beside it is refused. */
    private void range(int argument, int least, int most) {
        for (int number : new int[] {least, most}) {
            s.due("addKind with " + number, addKind(new HelpDesk(), argument, number), 0);
        }
        for (int number : Desks.beside(least, most)) {
            s.unchanged(new HelpDesk(), "addKind with " + number, d -> addKind(d, argument, number), WRONG);
        }
    }

    private static int addKind(HelpDesk x, int argument, int number) {
        int[] w = {1, 1, 1, 1, 1};
        w[argument] = number;
        return x.addKind(w[0], w[1], w[2], w[3], w[4], false);
    }

    private void addKind() {
        s.under("Promise 7: addKind");
        s.of("Adds a kind", () -> {
            HelpDesk x = new HelpDesk();
            x.addKind(1, 1, 1, 0, 0, true);
            s.due("one kind", x.kindCount(), 1);
            s.due("a ticket of it", x.report(0, 1, 1, 1), 0);
            s.due("its history", x.historyLength(), 1);
        });
        s.of("- `response`: the response target, 0 to 10080", () -> range(0, 0, 10080));
        s.of("- `resolve`: the resolve target, 0 to 10080", () -> range(1, 0, 10080));
        s.of("- `effort`: 1 to 480", () -> range(2, 1, 480));
        s.of("- `level`: the level that can solve it, 0 to 3", () -> range(3, 0, 3));
        s.of("- `climb`: the climb time, 0 to 10080", () -> range(4, 0, 10080));
        s.of("- `always`: whether it runs always", () -> {
            HelpDesk x = new HelpDesk();
            x.addKind(10080, 10080, 480, 0, 0, true);
            x.addKind(10080, 10080, 480, 0, 0, false);
            x.report(0, 1, 1, 1);
            x.report(1, 1, 1, 1);
            x.pass(540);
            s.due("true", x.resolveClock(0), 540);
            s.due("false", x.resolveClock(1), 0);
        });
    }

    private void addKindAnswers() {
        s.of("Returns the number of the kind", () -> {
            HelpDesk x = new HelpDesk();
            for (int kind = 0; kind < 6; kind++) {
                s.due("kind", x.addKind(kind, 1, 1, 0, 0, true), kind);
            }
        });
        s.of("OUT_OF_RANGE", () -> {
            HelpDesk x = new HelpDesk();
            s.unchanged(x, "all too small", d -> d.addKind(-1, -1, 0, -1, -1, true), WRONG);
            s.unchanged(x, "all too large", d -> d.addKind(10081, 10081, 481, 4, 10081, true), WRONG);
            s.due("no number is lost", x.addKind(1, 1, 1, 0, 0, true), 0);
        });
        s.of("FULL if there are 6 kinds", () -> {
            HelpDesk x = new HelpDesk();
            for (int kind = 0; kind < 5; kind++) {
                x.addKind(1, 1, 1, 0, 0, true);
            }
            s.due("the sixth", x.addKind(1, 1, 1, 0, 0, true), 5);
            s.unchanged(x, "the seventh", d -> d.addKind(1, 1, 1, 0, 0, true), HelpDesk.FULL);
            s.unchanged(x, "range before full", d -> d.addKind(1, 1, 0, 0, 0, true), WRONG);
        });
        s.under("Promise 8: kindCount");
        s.of("Returns the number of kinds", () -> {
            HelpDesk x = new HelpDesk();
            for (int kind = 0; kind < 6; kind++) {
                s.due("kinds", x.kindCount(), kind);
                x.addKind(1, 1, 1, 0, 0, true);
            }
            s.due("all", x.kindCount(), 6);
            x.addKind(1, 1, 1, 0, 0, true);
            s.due("no seventh", x.kindCount(), 6);
        });
    }

    private void setAgents() {
        s.under("Promise 9: setAgents");
        s.of("Sets the number of agents of a level", () -> {
            HelpDesk x = new HelpDesk();
            x.setAgents(2, 7);
            for (int level = 0; level < 4; level++) {
                s.due("level " + level, x.agents(level), level == 2 ? 7 : 1);
            }
        });
        s.of("If more tickets of this level are IN WORK than there are agents now", () -> {
            HelpDesk x = Desks.calm(60);
            x.setAgents(0, 9);
            x.setPriority(59, 3);
            x.climb(1);
            x.pass(7);
            s.due("nine in work", x.busyAgents(0), 9);
            int events = x.logSize();
            x.setAgents(0, 9);
            s.due("as many agents as before", x.busyAgents(0), 9);
            x.setAgents(0, 8);
            s.due("the highest number is queued", x.stateOf(59), Desks.QUEUED);
            s.due("its progress stays", x.progress(59), 7);
            s.due("eight in work", x.busyAgents(0), 8);
            x.setAgents(0, 1);
            s.due("the lowest number is in work", x.stateOf(0), Desks.IN_WORK);
            s.due("no other", x.busyAgents(0), 1);
            x.setAgents(0, 0);
            s.due("none at all", x.stateOf(0), Desks.QUEUED);
            s.due("another level's is in work", x.stateOf(1), Desks.IN_WORK);
            s.due("no events", x.logSize(), events);
            x.setAgents(0, 9);
            s.due("more agents change no ticket", x.busyAgents(0), 0);
            x.pass(1);
            s.due("work goes on", x.progress(59), 8);
        });
        s.of("- `level`: 0 to 3", () -> {
            HelpDesk x = new HelpDesk();
            s.due("0", x.setAgents(0, 2), 1);
            s.due("3", x.setAgents(3, 2), 1);
            for (int level : Desks.beside(0, 3)) {
                s.unchanged(x, "setAgents " + level, d -> d.setAgents(level, 1), WRONG);
            }
        });
        s.of("- `number`: 0 to 9", () -> {
            HelpDesk x = new HelpDesk();
            s.due("0", x.setAgents(0, 0), 1);
            s.due("9", x.setAgents(0, 9), 0);
            for (int number : Desks.beside(0, 9)) {
                s.unchanged(x, "to " + number, d -> d.setAgents(0, number), WRONG);
            }
        });
    }

    private void setAgentsAnswers() {
        s.of("Returns the previous number", () -> {
            HelpDesk x = new HelpDesk();
            int previous = 1;
            for (int number = 0; number < 10; number++) {
                s.due("previous", x.setAgents(1, number), previous);
                previous = number;
            }
        });
        s.of("OUT_OF_RANGE", () -> {
            HelpDesk x = new HelpDesk();
            s.unchanged(x, "both", d -> d.setAgents(-1, 10), WRONG);
            Desks.fillHistory(x);
            s.unchanged(x, "before full", d -> d.setAgents(0, 10), WRONG);
        });
        s.of("FULL", () -> {
            HelpDesk x = Desks.calm(2);
            x.setAgents(0, 2);
            x.pass(1);
            Desks.fillHistory(x);
            s.unchanged(x, "fewer agents", d -> d.setAgents(0, 0), HelpDesk.FULL);
            s.unchanged(x, "the same number", d -> d.setAgents(0, 2), HelpDesk.FULL);
        });
        s.under("Promise 10: agents");
        s.of("- `level`: 0 to 3", () -> {
            HelpDesk x = new HelpDesk();
            x.setAgents(0, 2);
            x.setAgents(3, 4);
            s.due("0", x.agents(0), 2);
            s.due("3", x.agents(3), 4);
        });
        s.of("Returns the number of agents", () -> {
            HelpDesk x = new HelpDesk();
            s.due("at first", x.agents(1), 1);
            x.setAgents(1, 0);
            s.due("none", x.agents(1), 0);
            x.setAgents(1, 9);
            s.due("nine", x.agents(1), 9);
        });
        refused("OUT_OF_RANGE", HelpDesk::agents, 0, 3, WRONG);
    }
}
