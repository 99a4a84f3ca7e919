import java.util.function.ObjIntConsumer;

/** The promises 59 and 60: saved states. */
final class SavedSentences extends Group {
    SavedSentences(Sentences sentences) {
        super(sentences);
    }

    @Override
    void test() {
        save();
        restore();
    }

    private void save() {
        s.under("Promise 59: save");
        s.of("Saves the time, the calendar, the kinds, the agents, the tickets, the history and the log", () -> {
            HelpDesk x = Desks.ofEveryState();
            String before = Desks.picture(x);
            s.unchanged(x, "save", d -> d.save(0) ? 1 : 0, 1);
            changeAll(x);
            x.restore(0);
            s.due("all is back", Desks.picture(x).equals(before), true);
            s.due("the kinds, too", x.report(1, 1, 1, 1), HelpDesk.NO_SUCH_KIND);
            newTicket();
            twoStates(SavedSentences::fill);
            twoStates(SavedSentences::fillUp);
            priorities();
            HelpDesk full = Desks.withEvents(600);
            Desks.fillHistory(full);
            String all = Desks.picture(full);
            full.save(1);
            full.pass(10080);
            full.restore(1);
            s.due("a full desk", Desks.picture(full).equals(all), true);
            s.due("still full", full.pause(0), HelpDesk.FULL);
        });
        s.of("The text buffer, the error code, the error position and the script failure do not", () -> {
            HelpDesk x = new HelpDesk();
            x.appendText(0x70617373);
            x.save(0);
            Desks.append(x, " 100000;");
            x.restore(0);
            s.due("the text", Desks.textLength(x), 12);
            x.runScript();
            x.restore(0);
            s.due("the text, empty", Desks.textLength(x), 0);
            s.due("the error code", x.errorCode(), 2);
            s.due("the error position", x.errorPosition(), 5);
            x.save(1);
            Desks.run(x, "pause 0;");
            x.restore(1);
            s.due("the error code", x.errorCode(), 0);
            s.due("the error position", x.errorPosition(), HelpDesk.NONE);
            s.due("the failure", x.scriptFailure(), HelpDesk.NO_SUCH_TICKET);
        });
        s.of("- `slot`: 0 or 1; a state that is already saved there is replaced", () -> {
            HelpDesk x = new HelpDesk();
            for (int slot = 0; slot < 2; slot++) {
                s.due("slot " + slot, x.save(slot), true);
                x.pass(5);
                s.due("slot " + slot + " again", x.save(slot), true);
                x.pass(5);
            }
            x.restore(0);
            s.due("slot 0, replaced", x.now(), 5);
            x.restore(1);
            s.due("slot 1, replaced", x.now(), 15);
            HelpDesk y = Desks.calm(0);
            String small = Desks.picture(y);
            y.save(1);
            Desks.report(y, 60);
            changeAll(y);
            y.save(0);
            y.restore(1);
            y.save(0);
            changeAll(y);
            y.restore(0);
            s.due("a great state, replaced by a small one", Desks.picture(y).equals(small), true);
        });
        s.of("Returns true", () -> s.due("a new desk", new HelpDesk().save(0), true));
        s.of("false (and nothing changes) if slot is out of range", () -> {
            HelpDesk x = Desks.ofEveryState();
            x.save(0);
            x.save(1);
            x.pass(1);
            for (int slot : Desks.beside(0, 1)) {
                s.unchanged(x, "save " + slot, d -> d.save(slot) ? 1 : 0, 0);
            }
            x.restore(0);
            s.due("slot 0 stays", x.now(), 7);
            x.pass(1);
            x.restore(1);
            s.due("slot 1 stays", x.now(), 7);
        });
    }

    /** Nothing is left of a ticket that came after the saved state, when its number is given again. */
    private void newTicket() {
        HelpDesk x = Desks.open(3, 3, 480, 0, 100);
        x.save(0);
        x.report(0, 1, 1, 1);
        x.setAgents(0, 0);
        x.pass(60);
        x.setAgents(0, 1);
        x.pass(60);
        s.due("it was worked on", x.progress(0), 60);
        x.restore(0);
        s.due("the number is free again", x.report(0, 1, 1, 1), 0);
        s.due("its numbers", x.progress(0) + x.levelOf(0) + x.responseClock(0) + x.resolveClock(0), 0);
        s.due("its times", x.answeredAt(0) + x.solvedAt(0) + x.reportedAt(0), -2);
        s.due("its breaches", x.responseBreaches(0) + x.resolveBreaches(0), 0);
        x.setAgents(0, 0);
        x.pass(99);
        s.due("its level clock", x.levelOf(0), 0);
        HelpDesk y = Desks.open(10080, 10080, 20, 0, 0);
        y.save(0);
        y.pass(5);
        Desks.report(y, 4);
        y.join(2, 1);
        y.join(3, 1);
        y.pass(60);
        s.due("all four are solved", y.solvedAt(0) + y.solvedAt(1) + y.solvedAt(2) + y.solvedAt(3), 25 + 3 * 45);
        y.restore(0);
        for (int t = 0; t < 4; t++) {
            y.report(0, 1, 1, 1);
            s.due("answered, solved, root of " + t, y.answeredAt(t) + y.solvedAt(t) + y.rootOf(t), -3);
            s.due("reported, twins, state of " + t, y.reportedAt(t) + y.twins(t) + y.stateOf(t), 0);
        }
    }

    /** Two states that have as many of all things, but other ones, on the same object and on objects of their own. */
    private void twoStates(ObjIntConsumer<HelpDesk> filling) {
        HelpDesk x = new HelpDesk();
        x.save(1);
        filling.accept(x, 0);
        x.save(0);
        x.restore(1);
        filling.accept(x, 1);
        x.save(1);
        for (int slot = 0; slot < 2; slot++) {
            HelpDesk alone = new HelpDesk();
            filling.accept(alone, slot);
            x.restore(slot);
            s.due("slot " + slot, Desks.picture(x).equals(Desks.picture(alone)), true);
            x.pass(2000);
            alone.pass(2000);
            s.due("slot " + slot + " later", Desks.picture(x).equals(Desks.picture(alone)), true);
        }
    }

    /** The priorities of the reports in the history, of which alone it hangs who waits in the replay. */
    private void priorities() {
        HelpDesk x = Desks.open(5, 10080, 20, 0, 0);
        x.addKind(10080, 10080, 20, 0, 0, true);
        x.save(0);
        x.report(0, 1, 1, 3);
        x.report(1, 1, 1, 0);
        x.pass(100);
        x.save(1);
        x.restore(0);
        x.report(0, 1, 1, 0);
        x.report(1, 1, 1, 3);
        x.pass(100);
        s.due("the one in a hurry comes second", x.breachesWith(0, 1), 1);
        x.restore(1);
        s.due("the one in a hurry comes first", x.breachesWith(0, 1), 0);
    }

    private static void fill(HelpDesk x, int variant) {
        boolean first = variant == 0;
        x.addKind(first ? 5 : 30, first ? 40 : 9, first ? 20 : 31, first ? 0 : 2, first ? 15 : 0, first);
        x.addKind(first ? 8 : 3, first ? 12 : 90, first ? 7 : 9, first ? 1 : 0, first ? 0 : 25, !first);
        x.setDay(0, first ? 0 : 7, first ? 25 : 1000);
        x.pass(first ? 2 : 540);
        x.setAgents(first ? 1 : 0, first ? 0 : 2);
        for (int t = 0; t < 6; t++) {
            x.report(first ? t % 2 : (t + 1) % 2, first ? 20 : 60, first ? 5 : 6 + t % 3, first ? t % 4 : 3 - t % 4);
            x.pass(first ? 3 : 1);
        }
        if (first) {
            x.pause(3);
            x.join(5, 4);
        } else {
            x.climb(0);
            x.setPriority(2, 3);
        }
        x.pass(first ? 3 : 15);
        x.solve(first ? 4 : 5);
    }

    /** As many kinds and tickets as there can be, of which the last ones, too, are others in each variant. */
    private static void fillUp(HelpDesk x, int variant) {
        boolean first = variant == 0;
        for (int kind = 0; kind < 6; kind++) {
            x.addKind(5 + kind + 3 * variant, 30 + kind + 9 * variant, 7 + kind + 2 * variant, (kind + variant) % 3,
                    kind % 2 == variant ? 0 : 40 + kind, kind % 2 == variant);
        }
        for (int day = 0; day < 7; day++) {
            x.setDay(day, 10 * day + variant, 1000 + day - variant);
        }
        for (int level = 0; level < 4; level++) {
            x.setAgents(level, 9 - level - variant);
        }
        for (int t = 0; t < 59; t++) {
            x.report((t + variant) % 6, 99 - t - variant, 7 + t % 2, (t + variant) % 4);
        }
        x.pass(10 + variant);
        x.report(first ? 5 : 4, first ? 30 : 33, first ? 7 : 8, 3 - variant);
        x.pass(first ? 2 : 3);
        if (first) {
            x.pause(59);
        } else {
            x.join(59, 58);
        }
        x.pass(4 + variant);
    }

    private static void changeAll(HelpDesk x) {
        x.addKind(0, 0, 1, 0, 1, false);
        x.setDay(0, 1, 2);
        x.setDay(6, 1, 2);
        x.setAgents(0, 7);
        x.setAgents(3, 1);
        x.part(4);
        x.resume(2);
        x.reopen(3);
        x.climb(2);
        x.setPriority(0, 3);
        x.report(1, 40, 500, 3);
        x.pass(3000);
        x.solve(1);
    }

    private void restore() {
        s.under("Promise 60: restore");
        s.of("Brings back a saved state, which stays saved", () -> {
            HelpDesk x = Desks.ofEveryState();
            String before = Desks.picture(x);
            x.save(0);
            for (int i = 0; i < 3; i++) {
                changeAll(x);
                s.due("another state", Desks.picture(x).equals(before), false);
                s.due("back", x.restore(0), true);
                s.due("as it was", Desks.picture(x).equals(before), true);
            }
            HelpDesk y = Desks.ofEveryState();
            y.save(0);
            y.restore(0);
            x.pass(2000);
            y.pass(2000);
            s.due("it goes on alike", Desks.picture(x).equals(Desks.picture(y)), true);
        });
        s.of("- `slot`: 0 or 1", () -> {
            HelpDesk x = new HelpDesk();
            x.save(0);
            x.pass(1);
            x.save(1);
            s.due("0", x.restore(0), true);
            s.due("its time", x.now(), 0);
            s.due("1", x.restore(1), true);
            s.due("its time", x.now(), 1);
        });
        s.of("Returns true", () -> {
            HelpDesk x = new HelpDesk();
            x.save(1);
            s.due("saved just now", x.restore(1), true);
        });
        s.of("false (and nothing changes) if slot is out of range or nothing is saved there", () -> {
            HelpDesk x = Desks.ofEveryState();
            s.unchanged(x, "slot 0, nothing saved", d -> d.restore(0) ? 1 : 0, 0);
            x.save(1);
            x.pass(1);
            s.unchanged(x, "slot 0, slot 1 saved", d -> d.restore(0) ? 1 : 0, 0);
            x.save(0);
            x.pass(1);
            for (int slot : Desks.beside(0, 1)) {
                s.unchanged(x, "restore " + slot, d -> d.restore(slot) ? 1 : 0, 0);
            }
            HelpDesk y = Desks.ofEveryState();
            y.save(0);
            s.unchanged(y, "slot 1, slot 0 saved", d -> d.restore(1) ? 1 : 0, 0);
        });
    }
}
