import java.util.Random;

/** Random runs of up to 512 calls, each answer compared with the one of the document told a second time. */
public final class RandomRunsTest {
    private static final Check check = new Check();
    private static final String[] CHANGES = {"report", "report", "report", "report", "pause", "resume", "resume",
        "climb", "solve", "reopen", "reopen", "join", "join", "part", "setPriority", "setAgents", "setDay"};
    private static final String[] VERBS = {"report", "report", "pause", "resume", "climb", "solve", "reopen", "join",
        "part", "priority", "pass", "agents", "day", "kind"};

    private final Random random;
    private final HelpDesk x = new HelpDesk();
    private final ReferenceScript script = new ReferenceScript();
    private final ReferenceDesk[] saved = new ReferenceDesk[2];
    private ReferenceDesk r = new ReferenceDesk();
    private final int wildness;
    private final int stride;
    private final int run;
    // Such a run is of changes above all and ends with every replay that can be asked for.
    private final boolean replays;
    private int calls;

    private RandomRunsTest(int run) {
        this.run = run;
        random = new Random(run);
        replays = run % 3 == 2;
        wildness = random.nextInt(3) == 0 ? 8 : 60;
        stride = new int[] {3, 30, 200}[random.nextInt(3)];
    }

    public static void main(String[] args) {
        int runs = args.length > 0 ? Integer.parseInt(args[0]) : 60;
        for (int run = 0; run < runs; run++) {
            new RandomRunsTest(run).go();
        }
        check.finish();
    }

    private void go() {
        int kinds = 1 + random.nextInt(5);
        for (int i = 0; i < kinds; i++) {
            addKind();
        }
        if (random.nextInt(3) > 0) {
            for (int day = 0; day < 7; day++) {
                change("setDay", day, 0, 1440);
            }
        }
        while (calls < (replays ? 468 : 512)) {
            step();
        }
        if (replays) {
            everyReplay();
        }
    }

    private void step() {
        int which = random.nextInt(100);
        if (which < 45 || replays && which >= 75) {
            anyChange();
        } else if (which < 58) {
            pass();
        } else if (which < 63) {
            scripts();
        } else if (which < 66) {
            states();
        } else if (which < 67) {
            addKind();
        } else if (which < 70) {
            forecasts();
        } else {
            query();
        }
    }

    private void due(int promise, String call, long got, long want) {
        calls++;
        check.due(promise, "run " + run + ", call " + calls + ", " + call, got, want);
    }

    /** Mostly a number from 0 on and below the bound, but now and then one beside it. */
    private int number(int bound) {
        if (random.nextInt(wildness * 4) == 0) {
            int[] odd = {-1, bound, bound + 1, -2, Integer.MIN_VALUE, Integer.MAX_VALUE};
            return odd[random.nextInt(odd.length)];
        }
        return random.nextInt(Math.max(1, bound));
    }

    private int ticket() {
        return number(r.tickets.size());
    }

    private void addKind() {
        int response = replays || random.nextBoolean() ? number(40) : number(10081);
        int resolve = replays || random.nextBoolean() ? number(150) : number(10081);
        int effort = replays || random.nextBoolean() ? 1 + number(40) : number(482);
        int level = number(4);
        int climb = random.nextBoolean() ? 0 : random.nextBoolean() ? number(60) : number(10081);
        boolean always = random.nextBoolean();
        due(7, "addKind", x.addKind(response, resolve, effort, level, climb, always),
                r.addKind(response, resolve, effort, level, climb, always));
    }

    private void anyChange() {
        String name = CHANGES[random.nextInt(CHANGES.length)];
        switch (name) {
            case "setDay":
                int opening = random.nextInt(3) == 0 ? 0 : number(1440);
                int closing = random.nextInt(4) == 0 ? number(1441) : opening >= 0 && opening < 1440
                        ? opening + random.nextInt(1441 - opening) : 0;
                change(name, number(7), opening, closing);
                break;
            case "setAgents":
                change(name, number(4), random.nextInt(3) == 0 ? number(10) : number(3));
                break;
            case "report":
                change(name, number(r.kinds.size()), number(random.nextBoolean() ? 5 : 100),
                        number(random.nextBoolean() ? 3 : 1000), number(4));
                break;
            case "setPriority":
                change(name, ticket(), number(4));
                break;
            case "join":
                change(name, ticket(), ticket());
                break;
            default:
                change(name, ticket());
        }
    }

    private void change(String name, int... w) {
        int want = r.change(name, w);
        switch (name) {
            case "setDay": due(2, name, x.setDay(w[0], w[1], w[2]), want); break;
            case "setAgents": due(9, name, x.setAgents(w[0], w[1]), want); break;
            case "report": due(11, name, x.report(w[0], w[1], w[2], w[3]), want); break;
            case "pause": due(12, name, x.pause(w[0]), want); break;
            case "resume": due(13, name, x.resume(w[0]), want); break;
            case "climb": due(14, name, x.climb(w[0]), want); break;
            case "solve": due(15, name, x.solve(w[0]), want); break;
            case "reopen": due(16, name, x.reopen(w[0]), want); break;
            case "join": due(17, name, x.join(w[0], w[1]), want); break;
            case "part": due(18, name, x.part(w[0]), want); break;
            default: due(19, name, x.setPriority(w[0], w[1]), want); break;
        }
    }

    private void pass() {
        int minutes = random.nextInt(wildness) == 0 ? number(10080) / 3 : number(stride) + 1;
        due(20, "pass " + minutes, x.pass(minutes), r.pass(minutes));
    }

    private void states() {
        int slot = number(2);
        boolean inRange = slot == 0 || slot == 1;
        if (random.nextBoolean()) {
            due(59, "save", x.save(slot) ? 1 : 0, inRange ? 1 : 0);
            if (inRange) {
                saved[slot] = r.copy();
            }
        } else {
            boolean there = inRange && saved[slot] != null;
            due(60, "restore", x.restore(slot) ? 1 : 0, there ? 1 : 0);
            if (there) {
                r = saved[slot].copy();
            }
        }
    }

    private void forecasts() {
        switch (random.nextInt(4)) {
            case 0:
                int ticket = ticket();
                due(43, "forecast " + ticket, x.forecast(ticket), r.forecast(ticket));
                break;
            case 1:
                due(44, "breachesAhead", x.breachesAhead(), r.breachesAhead());
                break;
            case 2:
                int level = number(4);
                int number = number(10);
                due(45, "breachesWith " + level + " " + number, x.breachesWith(level, number),
                        r.breachesWith(level, number));
                break;
            default:
                int at = number(4);
                due(46, "leastAgents " + at, x.leastAgents(at), r.leastAgents(at));
        }
    }

    private void everyReplay() {
        for (int level = 0; level < 4; level++) {
            for (int number = 0; number < 10; number++) {
                due(45, "breachesWith " + level + " " + number, x.breachesWith(level, number),
                        r.breachesWith(level, number));
            }
            due(46, "leastAgents " + level, x.leastAgents(level), r.leastAgents(level));
        }
    }

    // ---- scripts

    private void scripts() {
        String text = randomScript();
        while (text.length() % 4 != 0) {
            text += random.nextBoolean() ? " " : "\n";
        }
        for (int i = 0; i < text.length(); i += 4) {
            int bytes = 0;
            for (int k = i; k < i + 4; k++) {
                bytes = bytes << 8 | text.charAt(k);
            }
            due(53, "appendText", x.appendText(bytes), script.append(bytes));
        }
        if (random.nextInt(3) == 0) {
            int length = script.text.length() - random.nextInt(4);
            due(54, "truncateText", x.truncateText(length), script.truncate(length));
        }
        due(55, "runScript of " + script.text, x.runScript(), script.run(r));
        due(56, "errorCode", x.errorCode(), script.errorCode);
        due(57, "errorPosition", x.errorPosition(), script.errorPosition);
        due(58, "scriptFailure", x.scriptFailure(), script.failure);
    }

    private String randomScript() {
        StringBuilder text = new StringBuilder();
        int statements = 1 + random.nextInt(4);
        for (int i = 0; i < statements; i++) {
            String verb = VERBS[random.nextInt(VERBS.length)];
            text.append(verb);
            int n = verb.equals("report") ? 4 : verb.equals("kind") ? 5 : verb.equals("day") ? 3
                    : verb.equals("join") || verb.equals("priority") || verb.equals("agents") ? 2 : 1;
            for (int k = 0; k < n; k++) {
                text.append(random.nextInt(9) == 0 ? "\n 00" : " ");
                text.append(random.nextInt(60) == 0 ? 99990 + random.nextInt(20) : random.nextInt(k == 0 ? 9 : 4));
            }
            text.append(verb.equals("kind") && random.nextBoolean() ? " always" : "").append(';');
        }
        if (random.nextInt(6) == 0) {
            String odd = "az;9 \nA{`/:\u0000\u00ff";
            text.setCharAt(random.nextInt(text.length()), odd.charAt(random.nextInt(odd.length())));
        }
        return text.toString();
    }

    // ---- queries

    private void query() {
        switch (random.nextInt(6)) {
            case 0: askCalendarAndSizes(); break;
            case 1: askLevels(); break;
            case 2: askLog(); break;
            case 3: askBreaches(); break;
            default: askTicket(ticket());
        }
    }

    private void askCalendarAndSizes() {
        int day = number(7);
        boolean isDay = day >= 0 && day < 7;
        int minute = number(10080);
        switch (random.nextInt(8)) {
            case 0: due(3, "openingMinute", x.openingMinute(day), isDay ? r.opening[day] : -4); break;
            case 1: due(4, "closingMinute", x.closingMinute(day), isDay ? r.closing[day] : -4); break;
            case 2: due(5, "isOpen", x.isOpen(minute), r.isOpen(minute)); break;
            case 3:
                int to = number(10081);
                due(6, "openMinutes", x.openMinutes(minute, to), r.openMinutes(minute, to));
                break;
            case 4: due(8, "kindCount", x.kindCount(), r.kinds.size()); break;
            case 5: due(21, "now", x.now(), r.time); break;
            case 6: due(22, "ticketCount", x.ticketCount(), r.tickets.size()); break;
            default: due(47, "historyLength", x.historyLength(), r.history.size());
        }
    }

    private void askLevels() {
        int level = number(4);
        switch (random.nextInt(4)) {
            case 0: due(10, "agents", x.agents(level), level >= 0 && level < 4 ? r.agents[level] : -4); break;
            case 1: due(35, "queueLength", x.queueLength(level), r.queueLength(level)); break;
            case 2: due(36, "nextTicket", x.nextTicket(level), r.nextTicket(level)); break;
            default: due(37, "busyAgents", x.busyAgents(level), r.busyAgents(level));
        }
    }

    private void askLog() {
        due(48, "logSize", x.logSize(), r.log.size());
        int i = random.nextInt(3) == 0 ? number(r.log.size()) : r.log.size() - 1 - random.nextInt(8);
        due(49, "logTime " + i, x.logTime(i), r.logField(i, ReferenceDesk.Event::time));
        due(50, "logType " + i, x.logType(i), r.logField(i, ReferenceDesk.Event::type));
        due(51, "logTicket " + i, x.logTicket(i), r.logField(i, ReferenceDesk.Event::ticket));
        due(52, "logDetail " + i, x.logDetail(i), r.logField(i, ReferenceDesk.Event::detail));
    }

    private void askBreaches() {
        int kind = random.nextInt(3) - 1;
        int p = 1 + number(100);
        int customer = number(random.nextBoolean() ? 5 : 100);
        switch (random.nextInt(4)) {
            case 0: due(39, "customerTickets", x.customerTickets(customer), r.customerTickets(customer)); break;
            case 1: due(40, "responseBreaches", x.responseBreaches(kind), r.responseBreaches(kind)); break;
            case 2: due(41, "resolveBreaches", x.resolveBreaches(kind), r.resolveBreaches(kind)); break;
            default: due(42, "resolvePercentile", x.resolvePercentile(p), r.resolvePercentile(p));
        }
    }

    private void askTicket(int n) {
        String of = " of " + n;
        switch (random.nextInt(14)) {
            case 0: due(23, "stateOf" + of, x.stateOf(n), r.of(n, t -> t.state)); break;
            case 1: due(24, "kindOf" + of, x.kindOf(n), r.of(n, t -> t.kindNumber)); break;
            case 2: due(25, "levelOf" + of, x.levelOf(n), r.of(n, t -> t.level)); break;
            case 3: due(26, "priorityOf" + of, x.priorityOf(n), r.of(n, t -> t.priority)); break;
            case 4: due(27, "progress" + of, x.progress(n), r.of(n, t -> t.progress)); break;
            case 5: due(28, "rootOf" + of, x.rootOf(n), r.of(n, t -> t.root)); break;
            case 6: due(29, "twins" + of, x.twins(n), r.twins(n)); break;
            case 7: due(30, "reportedAt" + of, x.reportedAt(n), r.of(n, t -> t.reportedAt)); break;
            case 8: due(31, "answeredAt" + of, x.answeredAt(n), r.of(n, t -> t.answeredAt)); break;
            case 9: due(32, "solvedAt" + of, x.solvedAt(n), r.of(n, t -> t.solvedAt)); break;
            case 10: due(33, "responseClock" + of, x.responseClock(n), r.of(n, t -> t.responseClock)); break;
            case 11: due(34, "resolveClock" + of, x.resolveClock(n), r.of(n, t -> t.resolveClock)); break;
            default: due(38, "suggestRoot" + of, x.suggestRoot(n), r.suggestRoot(n));
        }
    }
}
