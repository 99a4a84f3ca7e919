/** The tests of the sentences under some heads of the document, and what they share. */
abstract class Group {
    /** A call with a number: of a ticket, a level, an index and the like. */
    interface Call {
        long of(HelpDesk x, int number);
    }

    final Sentences s;

    Group(Sentences sentences) {
        s = sentences;
    }

    abstract void test();

    /** What the call alters of the tickets of Desks.mixed: these fields, each with its new number, and no other. */
    final void alters(String what, Call call, int number, int[]... due) {
        HelpDesk x = Desks.mixed();
        long[][] want = new long[x.ticketCount()][];
        for (int t = 0; t < want.length; t++) {
            want[t] = Desks.fields(x, t);
        }
        for (int[] d : due) {
            want[d[0]][d[1]] = d[2];
        }
        s.due(what + " is no error", call.of(x, number) >= 0, true);
        for (int t = 0; t < want.length; t++) {
            long[] got = Desks.fields(x, t);
            for (int field = 0; field < got.length; field++) {
                s.due(what + ", field " + field + " of ticket " + t, got[field], want[t][field]);
            }
        }
    }

    /** The call is refused for all numbers that no ticket has, and changes nothing. */
    final void noSuchTicket(Call call) {
        s.of("NO_SUCH_TICKET", () -> {
            long no = HelpDesk.NO_SUCH_TICKET;
            s.unchanged(new HelpDesk(), "ticket 0 of none", d -> call.of(d, 0), no);
            for (int ticket : Desks.beside(0, 6)) {
                s.unchanged(Desks.ofEveryState(), "ticket " + ticket, d -> call.of(d, ticket), no);
            }
            HelpDesk x = Desks.calm(60);
            s.unchanged(x, "ticket 60", d -> call.of(d, 60), no);
            s.unchanged(x, "ticket 64", d -> call.of(d, 64), no);
            Desks.fillHistory(x);
            s.unchanged(x, "before full", d -> call.of(d, 60), no);
            HelpDesk y = Desks.calm(1);
            y.save(0);
            y.report(0, 1, 1, 1);
            y.restore(0);
            s.unchanged(y, "a ticket that is no more", d -> call.of(d, 1), no);
        });
    }

    /** The call is refused for the numbers beside a range, by an empty desk and by one with tickets. */
    final void refused(String sentence, Call call, int least, int most, int error) {
        s.of(sentence, () -> {
            for (int number : Desks.beside(least, most)) {
                s.unchanged(new HelpDesk(), "of " + number, d -> call.of(d, number), error);
                s.unchanged(Desks.ofEveryState(), "of " + number, d -> call.of(d, number), error);
            }
        });
    }

    final void event(HelpDesk x, int index, int time, int type, int ticket) {
        s.due("time of event " + index, x.logTime(index), time);
        s.due("type of event " + index, x.logType(index), type);
        s.due("ticket of event " + index, x.logTicket(index), ticket);
    }
}
