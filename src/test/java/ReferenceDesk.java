import java.util.ArrayList;
import java.util.Arrays;
import java.util.Comparator;
import java.util.List;
import java.util.function.ToIntFunction;
import java.util.stream.Collectors;

/**
 * The document told once more, minute by minute and without any thrift, so that the two tellings can be compared.
 * It flags and counts breaches when they happen, whereas the class finds them in the clocks.
 */
final class ReferenceDesk {
    static final int QUEUED = 0;
    static final int IN_WORK = 1;
    static final int PAUSED = 2;
    static final int SOLVED = 3;
    static final int TWIN = 4;

    record Kind(int response, int resolve, int effort, int level, int climb, boolean always) { }

    record Event(int time, int type, int ticket, int detail) { }

    record Change(int time, String name, int[] with) { }

    static final class Ticket implements Cloneable {
        int number;
        int kindNumber;
        Kind kind;
        int customer;
        int subject;
        int priority;
        int level;
        int state;
        int progress;
        int levelClock;
        int responseClock;
        int resolveClock;
        int root = -1;
        int reportedAt;
        int answeredAt = -1;
        int solvedAt = -1;
        boolean responseBreach;
        boolean resolveBreach;

        boolean in(int... states) {
            return Arrays.stream(states).anyMatch(s -> s == state);
        }

        Ticket copy() {
            try {
                return (Ticket) clone();
            } catch (CloneNotSupportedException e) {
                throw new IllegalStateException(e);
            }
        }
    }

    int time;
    int[] opening = {540, 540, 540, 540, 540, 0, 0};
    int[] closing = {1020, 1020, 1020, 1020, 1020, 0, 0};
    int[] agents = {1, 1, 1, 1};
    List<Kind> kinds = new ArrayList<>();
    List<Ticket> tickets = new ArrayList<>();
    List<Event> log = new ArrayList<>();
    List<Change> history = new ArrayList<>();
    int breaches;
    boolean replays;

    ReferenceDesk copy() {
        ReferenceDesk d = new ReferenceDesk();
        d.time = time;
        d.opening = opening.clone();
        d.closing = closing.clone();
        d.agents = agents.clone();
        d.kinds = new ArrayList<>(kinds);
        tickets.forEach(t -> d.tickets.add(t.copy()));
        d.log = new ArrayList<>(log);
        d.history = new ArrayList<>(history);
        d.breaches = breaches;
        return d;
    }

    // ---- calendar

    boolean open(int minute) {
        int ofDay = minute % 1440;
        return ofDay >= opening[minute / 1440] && ofDay < closing[minute / 1440];
    }

    int isOpen(int minute) {
        return minute < 0 || minute > 10079 ? -4 : open(minute) ? 1 : 0;
    }

    int openMinutes(int from, int to) {
        if (from < 0 || from > 10080 || to < from || to > 10080) {
            return -4;
        }
        int n = 0;
        for (int m = from; m < to; m++) {
            n += open(m) ? 1 : 0;
        }
        return n;
    }

    // ---- changes

    private boolean noTicket(int t) {
        return t < 0 || t >= tickets.size();
    }

    private boolean full() {
        return !replays && history.size() >= 200;
    }

    private void event(int at, int type, int ticket, int detail) {
        if (log.size() < 600) {
            log.add(new Event(at, type, ticket, detail));
        }
    }

    private void recorded(String name, int... with) {
        if (!replays) {
            history.add(new Change(time, name, with));
        }
    }

    int addKind(int response, int resolve, int effort, int level, int climb, boolean always) {
        if (response < 0 || response > 10080 || resolve < 0 || resolve > 10080 || effort < 1 || effort > 480
                || level < 0 || level > 3 || climb < 0 || climb > 10080) {
            return -4;
        }
        if (kinds.size() == 6) {
            return -6;
        }
        kinds.add(new Kind(response, resolve, effort, level, climb, always));
        return kinds.size() - 1;
    }

    int change(String name, int... w) {
        switch (name) {
            case "setDay": return setDay(w[0], w[1], w[2]);
            case "setAgents": return setAgents(w[0], w[1]);
            case "report": return report(w[0], w[1], w[2], w[3]);
            case "pause": return pause(w[0]);
            case "resume": return resume(w[0]);
            case "climb": return climb(w[0]);
            case "solve": return solve(w[0]);
            case "reopen": return reopen(w[0]);
            case "join": return join(w[0], w[1]);
            case "part": return part(w[0]);
            case "setPriority": return setPriority(w[0], w[1]);
            default: throw new IllegalArgumentException(name);
        }
    }

    private int setDay(int day, int from, int to) {
        boolean closed = from == 0 && to == 0;
        if (day < 0 || day > 6 || !closed && (from < 0 || from > 1439 || to <= from || to > 1440)) {
            return -4;
        }
        if (full()) {
            return -6;
        }
        recorded("setDay", day, from, to);
        opening[day] = from;
        closing[day] = to;
        return 0;
    }

    private int setAgents(int level, int number) {
        if (level < 0 || level > 3 || number < 0 || number > 9) {
            return -4;
        }
        if (full()) {
            return -6;
        }
        recorded("setAgents", level, number);
        int previous = agents[level];
        agents[level] = number;
        while (at(level, IN_WORK).size() > number) {
            List<Ticket> busy = at(level, IN_WORK);
            busy.get(busy.size() - 1).state = QUEUED;
        }
        return previous;
    }

    private int report(int kind, int customer, int subject, int priority) {
        if (kind < 0 || kind >= kinds.size()) {
            return -3;
        }
        if (customer < 0 || customer > 99 || subject < 0 || subject > 999 || priority < 0 || priority > 3) {
            return -4;
        }
        if (tickets.size() == 60 || full()) {
            return -6;
        }
        recorded("report", kind, customer, subject, priority);
        Ticket t = new Ticket();
        t.number = tickets.size();
        t.kindNumber = kind;
        t.kind = kinds.get(kind);
        t.customer = customer;
        t.subject = subject;
        t.priority = priority;
        t.reportedAt = time;
        tickets.add(t);
        event(time, 0, t.number, kind);
        return t.number;
    }

    private int pause(int n) {
        if (noTicket(n)) {
            return -2;
        }
        Ticket t = tickets.get(n);
        if (!t.in(QUEUED, IN_WORK)) {
            return -5;
        }
        if (full()) {
            return -6;
        }
        recorded("pause", n);
        t.state = PAUSED;
        event(time, 2, n, 0);
        return t.resolveClock;
    }

    private int resume(int n) {
        if (noTicket(n)) {
            return -2;
        }
        Ticket t = tickets.get(n);
        if (!t.in(PAUSED)) {
            return -5;
        }
        if (full()) {
            return -6;
        }
        recorded("resume", n);
        t.state = QUEUED;
        event(time, 3, n, 0);
        return t.resolveClock;
    }

    private int climb(int n) {
        if (noTicket(n)) {
            return -2;
        }
        Ticket t = tickets.get(n);
        if (!t.in(QUEUED, IN_WORK) || t.level == 3) {
            return -5;
        }
        if (full()) {
            return -6;
        }
        recorded("climb", n);
        climbs(t, time);
        return t.level;
    }

    private void climbs(Ticket t, int at) {
        t.level++;
        t.state = QUEUED;
        t.progress = 0;
        t.levelClock = 0;
        event(at, 4, t.number, t.level);
    }

    private int solve(int n) {
        if (noTicket(n)) {
            return -2;
        }
        Ticket t = tickets.get(n);
        if (!t.in(QUEUED, IN_WORK, PAUSED)) {
            return -5;
        }
        if (full()) {
            return -6;
        }
        recorded("solve", n);
        return becomesSolved(t, time);
    }

    private int becomesSolved(Ticket t, int at) {
        List<Ticket> all = new ArrayList<>(List.of(t));
        all.addAll(twinsOf(t.number));
        for (Ticket s : all) {
            s.state = SOLVED;
            s.solvedAt = at;
            event(at, 5, s.number, 0);
        }
        return all.size();
    }

    private List<Ticket> twinsOf(int n) {
        return tickets.stream().filter(t -> t.root == n).collect(Collectors.toList());
    }

    private int reopen(int n) {
        if (noTicket(n)) {
            return -2;
        }
        Ticket t = tickets.get(n);
        if (!t.in(SOLVED) || t.root != -1) {
            return -5;
        }
        if (full()) {
            return -6;
        }
        recorded("reopen", n);
        t.state = QUEUED;
        t.progress = 0;
        t.levelClock = 0;
        t.solvedAt = -1;
        for (Ticket s : twinsOf(n)) {
            s.state = TWIN;
            s.solvedAt = -1;
        }
        event(time, 10, n, 0);
        return 1 + twinsOf(n).size();
    }

    private int join(int n, int r) {
        if (noTicket(n) || noTicket(r)) {
            return -2;
        }
        Ticket t = tickets.get(n);
        if (n == r || !t.in(QUEUED, IN_WORK, PAUSED) || !tickets.get(r).in(QUEUED, IN_WORK, PAUSED)) {
            return -5;
        }
        if (full()) {
            return -6;
        }
        recorded("join", n, r);
        t.state = TWIN;
        twinsOf(n).forEach(s -> s.root = r);
        t.root = r;
        event(time, 6, n, r);
        return twinsOf(r).size();
    }

    private int part(int n) {
        if (noTicket(n)) {
            return -2;
        }
        Ticket t = tickets.get(n);
        if (!t.in(TWIN)) {
            return -5;
        }
        if (full()) {
            return -6;
        }
        recorded("part", n);
        int root = t.root;
        t.state = QUEUED;
        t.root = -1;
        event(time, 7, n, root);
        return root;
    }

    private int setPriority(int n, int priority) {
        if (noTicket(n)) {
            return -2;
        }
        if (priority < 0 || priority > 3) {
            return -4;
        }
        Ticket t = tickets.get(n);
        if (t.in(SOLVED)) {
            return -5;
        }
        if (full()) {
            return -6;
        }
        recorded("setPriority", n, priority);
        int previous = t.priority;
        t.priority = priority;
        return previous;
    }

    // ---- time

    int pass(int minutes) {
        if (minutes < 1 || minutes > 10080 - time) {
            return -4;
        }
        int solved = 0;
        for (int i = 0; i < minutes; i++) {
            solved += minute();
        }
        return solved;
    }

    private int minute() {
        boolean open = open(time);
        if (open) {
            for (int level = 0; level < 4; level++) {
                while (at(level, IN_WORK).size() < agents[level] && !at(level, QUEUED).isEmpty()) {
                    Ticket t = at(level, QUEUED).stream().min(urgency()).get();
                    t.state = IN_WORK;
                    if (t.answeredAt == -1) {
                        t.answeredAt = time;
                    }
                    event(time, 1, t.number, level);
                }
            }
        }
        for (Ticket t : tickets) {
            if (open || t.kind.always) {
                clocks(t);
            }
        }
        int solved = 0;
        for (Ticket t : tickets) {
            if (open && t.state == IN_WORK) {
                t.progress++;
                if (t.progress == t.kind.effort) {
                    if (t.level >= t.kind.level) {
                        solved += becomesSolved(t, time + 1);
                    } else {
                        climbs(t, time + 1);
                    }
                }
            }
        }
        for (Ticket t : tickets) {
            if (t.state == QUEUED && t.kind.climb != 0 && t.levelClock >= t.kind.climb && t.level < 3) {
                climbs(t, time + 1);
            }
        }
        time++;
        return solved;
    }

    private void clocks(Ticket t) {
        Ticket root = t.state == TWIN ? tickets.get(t.root) : null;
        boolean response = t.answeredAt == -1
                && (t.in(QUEUED, PAUSED) || t.state == TWIN && root.answeredAt == -1);
        boolean resolve = t.in(QUEUED, IN_WORK) || t.state == TWIN && root.in(QUEUED, IN_WORK);
        if (response) {
            t.responseClock++;
        }
        if (resolve) {
            t.resolveClock++;
        }
        if (t.state == QUEUED) {
            t.levelClock++;
        }
        if (t.responseClock > t.kind.response && !t.responseBreach) {
            t.responseBreach = true;
            breaches++;
            event(time + 1, 8, t.number, t.kind.response);
        }
        if (t.resolveClock > t.kind.resolve && !t.resolveBreach) {
            t.resolveBreach = true;
            breaches++;
            event(time + 1, 9, t.number, t.kind.resolve);
        }
    }

    private static Comparator<Ticket> urgency() {
        Comparator<Ticket> byPriority = Comparator.comparingInt(t -> -t.priority);
        return byPriority.thenComparingInt(t -> t.kind.resolve - t.resolveClock).thenComparingInt(t -> t.number);
    }

    private List<Ticket> at(int level, int state) {
        List<Ticket> list = new ArrayList<>();
        for (Ticket t : tickets) {
            if (t.level == level && t.state == state) {
                list.add(t);
            }
        }
        return list;
    }

    // ---- queries

    int of(int n, ToIntFunction<Ticket> what) {
        return noTicket(n) ? -2 : what.applyAsInt(tickets.get(n));
    }

    long twins(int n) {
        return noTicket(n) ? -2 : twinsOf(n).stream().mapToLong(t -> 1L << t.number).sum();
    }

    int queueLength(int level) {
        return level < 0 || level > 3 ? -4 : at(level, QUEUED).size();
    }

    int nextTicket(int level) {
        return level < 0 || level > 3 ? -4 : at(level, QUEUED).stream().min(urgency()).map(t -> t.number).orElse(-1);
    }

    int busyAgents(int level) {
        return level < 0 || level > 3 ? -4 : at(level, IN_WORK).size();
    }

    int suggestRoot(int n) {
        if (noTicket(n)) {
            return -2;
        }
        Ticket x = tickets.get(n);
        return tickets.stream().filter(t -> t.number < n && t.kindNumber == x.kindNumber && t.subject == x.subject
                && t.in(QUEUED, IN_WORK, PAUSED) && x.reportedAt - t.reportedAt <= 240)
                .mapToInt(t -> t.number).findFirst().orElse(-1);
    }

    long customerTickets(int customer) {
        if (customer < 0 || customer > 99) {
            return -4;
        }
        return tickets.stream().filter(t -> t.customer == customer && t.state != SOLVED)
                .mapToLong(t -> 1L << t.number).sum();
    }

    int responseBreaches(int kind) {
        if (kind < -1 || kind >= kinds.size()) {
            return -3;
        }
        return (int) tickets.stream().filter(t -> (kind == -1 || t.kindNumber == kind) && t.responseBreach).count();
    }

    int resolveBreaches(int kind) {
        if (kind < -1 || kind >= kinds.size()) {
            return -3;
        }
        return (int) tickets.stream().filter(t -> (kind == -1 || t.kindNumber == kind) && t.resolveBreach).count();
    }

    int resolvePercentile(int p) {
        if (p < 1 || p > 100) {
            return -4;
        }
        int[] clocks = tickets.stream().filter(t -> t.in(SOLVED)).mapToInt(t -> t.resolveClock).sorted().toArray();
        return clocks.length == 0 ? -1 : clocks[(int) Math.ceil(p * clocks.length / 100.0) - 1];
    }

    private ReferenceDesk atTheEnd() {
        ReferenceDesk d = copy();
        for (int m = time; m < 10080; m++) {
            d.minute();
        }
        return d;
    }

    int forecast(int n) {
        return noTicket(n) ? -2 : atTheEnd().tickets.get(n).solvedAt;
    }

    int breachesAhead() {
        return atTheEnd().breaches - breaches;
    }

    int breachesWith(int level, int number) {
        if (level < 0 || level > 3 || number < 0 || number > 9) {
            return -4;
        }
        ReferenceDesk d = new ReferenceDesk();
        d.replays = true;
        d.kinds = kinds;
        d.agents[level] = number;
        int i = 0;
        for (;;) {
            while (i < history.size() && history.get(i).time == d.time) {
                Change c = history.get(i);
                if (!(c.name.equals("setAgents") && c.with[0] == level)) {
                    d.change(c.name, c.with);
                }
                i++;
            }
            if (d.time == time) {
                return d.breaches;
            }
            d.minute();
        }
    }

    int leastAgents(int level) {
        if (level < 0 || level > 3) {
            return -4;
        }
        for (int n = 0; n <= 9; n++) {
            if (breachesWith(level, n) == 0) {
                return n;
            }
        }
        return -1;
    }

    int logField(int index, ToIntFunction<Event> what) {
        return index < 0 || index >= log.size() ? -4 : what.applyAsInt(log.get(index));
    }
}
