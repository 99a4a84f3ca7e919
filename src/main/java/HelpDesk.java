import java.util.Arrays;

public final class HelpDesk {
    public static final int NONE = -1;
    public static final int NO_SUCH_TICKET = -2;
    public static final int NO_SUCH_KIND = -3;
    public static final int OUT_OF_RANGE = -4;
    public static final int WRONG_STATE = -5;
    public static final int FULL = -6;
    public static final int SYNTAX_ERROR = -7;

    private static final int WEEK = 10080;
    private static final int DAY = 1440;
    private static final int DAYS = 7;
    private static final int KINDS = 6;
    private static final int MOST_EFFORT = 480;
    private static final int LEVELS = 4;
    private static final int TOP_LEVEL = LEVELS - 1;
    private static final int MOST_AGENTS = 9;
    private static final int TICKETS = 60;
    private static final int MOST_CUSTOMER = 99;
    private static final int MOST_SUBJECT = 999;
    private static final int MOST_PRIORITY = 3;
    private static final int SAME_FAULT_MINUTES = 240;
    private static final int CHANGES = 200;
    private static final int EVENTS = 600;
    private static final int TEXT_BYTES = 400;
    private static final int STATEMENTS = 40;
    private static final int MOST_ARGUMENTS = 5;
    private static final int MOST_NUMBER = 99999;
    private static final int SLOTS = 2;

    private static final int QUEUED = 0;
    private static final int IN_WORK = 1;
    private static final int PAUSED = 2;
    private static final int SOLVED = 3;
    private static final int TWIN = 4;

    private static final int EVENT_REPORTED = 0;
    private static final int EVENT_TAKEN = 1;
    private static final int EVENT_PAUSED = 2;
    private static final int EVENT_RESUMED = 3;
    private static final int EVENT_CLIMBED = 4;
    private static final int EVENT_SOLVED = 5;
    private static final int EVENT_JOINED = 6;
    private static final int EVENT_PARTED = 7;
    private static final int EVENT_RESPONSE_BREACH = 8;
    private static final int EVENT_RESOLVE_BREACH = 9;
    private static final int EVENT_REOPENED = 10;

    // The changes of the history and the words of a script share these
    // numbers, so that a statement can be made as a change as it stands.
    private static final int SET_DAY = 0;
    private static final int ADD_KIND = 1;
    private static final int SET_AGENTS = 2;
    private static final int REPORT = 3;
    private static final int PAUSE = 4;
    private static final int RESUME = 5;
    private static final int CLIMB = 6;
    private static final int SOLVE = 7;
    private static final int REOPEN = 8;
    private static final int JOIN = 9;
    private static final int PART = 10;
    private static final int SET_PRIORITY = 11;
    private static final int PASS = 12;
    private static final int VERBS = 13;

    private static final int[] FIRST_OPENING = {540, 540, 540, 540, 540, 0, 0};
    private static final int[] FIRST_CLOSING = {1020, 1020, 1020, 1020, 1020, 0, 0};
    private static final int[] ARGUMENTS = {3, 5, 2, 4, 1, 1, 1, 1, 1, 2, 1, 2, 1};

    private final State live;
    private final State[] saved;
    // Forecasts and replays run on a desk of their own: the live one must not change.
    private final Desk trial;
    private final Script script;

    public HelpDesk() {
        live = new State();
        saved = new State[SLOTS];
        trial = new Desk(0);
        script = new Script();
    }

    // ---- calendar

    public int setDay(int day, int opening, int closing) {
        return change(SET_DAY, day, opening, closing, 0);
    }

    public int openingMinute(int day) {
        return within(day, 0, DAYS - 1) ? live.desk.calendar.opening[day] : OUT_OF_RANGE;
    }

    public int closingMinute(int day) {
        return within(day, 0, DAYS - 1) ? live.desk.calendar.closing[day] : OUT_OF_RANGE;
    }

    public int isOpen(int minute) {
        if (!within(minute, 0, WEEK - 1)) {
            return OUT_OF_RANGE;
        }
        return live.desk.calendar.opensAt(minute) ? 1 : 0;
    }

    public int openMinutes(int from, int to) {
        if (!within(from, 0, WEEK) || !within(to, from, WEEK)) {
            return OUT_OF_RANGE;
        }
        return live.desk.calendar.openBetween(from, to);
    }

    // ---- kinds and agents

    public int addKind(int response, int resolve, int effort, int level, int climb, boolean always) {
        if (!within(response, 0, WEEK) || !within(resolve, 0, WEEK) || !within(effort, 1, MOST_EFFORT)
                || !within(level, 0, TOP_LEVEL) || !within(climb, 0, WEEK)) {
            return OUT_OF_RANGE;
        }
        return live.desk.kinds.add(response, resolve, effort, level, climb, always);
    }

    public int kindCount() {
        return live.desk.kinds.count;
    }

    public int setAgents(int level, int number) {
        return change(SET_AGENTS, level, number, 0, 0);
    }

    public int agents(int level) {
        return within(level, 0, TOP_LEVEL) ? live.desk.agents[level] : OUT_OF_RANGE;
    }

    // ---- changes of tickets

    public int report(int kind, int customer, int subject, int priority) {
        return change(REPORT, kind, customer, subject, priority);
    }

    public int pause(int ticket) {
        return change(PAUSE, ticket, 0, 0, 0);
    }

    public int resume(int ticket) {
        return change(RESUME, ticket, 0, 0, 0);
    }

    public int climb(int ticket) {
        return change(CLIMB, ticket, 0, 0, 0);
    }

    public int solve(int ticket) {
        return change(SOLVE, ticket, 0, 0, 0);
    }

    public int reopen(int ticket) {
        return change(REOPEN, ticket, 0, 0, 0);
    }

    public int join(int ticket, int root) {
        return change(JOIN, ticket, root, 0, 0);
    }

    public int part(int ticket) {
        return change(PART, ticket, 0, 0, 0);
    }

    public int setPriority(int ticket, int priority) {
        return change(SET_PRIORITY, ticket, priority, 0, 0);
    }

    private int change(int type, int first, int second, int third, int fourth) {
        int error = live.desk.errorOf(type, first, second, third, fourth);
        if (error != 0) {
            return error;
        }
        if (!live.history.record(live.desk.time, type, first, second, third, fourth)) {
            return FULL;
        }
        return live.desk.make(type, first, second, third, fourth);
    }

    // ---- time

    public int pass(int minutes) {
        Desk desk = live.desk;
        if (!within(minutes, 1, WEEK - desk.time)) {
            return OUT_OF_RANGE;
        }
        int before = desk.tickets.countSolved();
        desk.passUntil(desk.time + minutes);
        return desk.tickets.countSolved() - before;
    }

    public int now() {
        return live.desk.time;
    }

    // ---- tickets

    public int ticketCount() {
        return live.desk.tickets.count;
    }

    public int stateOf(int ticket) {
        return ofTicket(live.desk.tickets.state, ticket);
    }

    public int kindOf(int ticket) {
        return ofTicket(live.desk.tickets.kind, ticket);
    }

    public int levelOf(int ticket) {
        return ofTicket(live.desk.tickets.level, ticket);
    }

    public int priorityOf(int ticket) {
        return ofTicket(live.desk.tickets.priority, ticket);
    }

    public int progress(int ticket) {
        return ofTicket(live.desk.tickets.progress, ticket);
    }

    public int rootOf(int ticket) {
        return ofTicket(live.desk.tickets.root, ticket);
    }

    public long twins(int ticket) {
        Tickets tickets = live.desk.tickets;
        return tickets.exists(ticket) ? tickets.twinMask(ticket) : NO_SUCH_TICKET;
    }

    public int reportedAt(int ticket) {
        return ofTicket(live.desk.tickets.reportedAt, ticket);
    }

    public int answeredAt(int ticket) {
        return ofTicket(live.desk.tickets.answeredAt, ticket);
    }

    public int solvedAt(int ticket) {
        return ofTicket(live.desk.tickets.solvedAt, ticket);
    }

    public int responseClock(int ticket) {
        return ofTicket(live.desk.tickets.responseClock, ticket);
    }

    public int resolveClock(int ticket) {
        return ofTicket(live.desk.tickets.resolveClock, ticket);
    }

    private int ofTicket(int[] column, int ticket) {
        return live.desk.tickets.exists(ticket) ? column[ticket] : NO_SUCH_TICKET;
    }

    // ---- queues, customers, breaches

    public int queueLength(int level) {
        return within(level, 0, TOP_LEVEL) ? live.desk.tickets.countAt(level, QUEUED) : OUT_OF_RANGE;
    }

    public int nextTicket(int level) {
        return within(level, 0, TOP_LEVEL) ? live.desk.firstQueued(level) : OUT_OF_RANGE;
    }

    public int busyAgents(int level) {
        return within(level, 0, TOP_LEVEL) ? live.desk.tickets.countAt(level, IN_WORK) : OUT_OF_RANGE;
    }

    public int suggestRoot(int ticket) {
        Tickets tickets = live.desk.tickets;
        return tickets.exists(ticket) ? tickets.sameFaultBefore(ticket) : NO_SUCH_TICKET;
    }

    public long customerTickets(int customer) {
        return within(customer, 0, MOST_CUSTOMER) ? live.desk.tickets.unsolvedMask(customer) : OUT_OF_RANGE;
    }

    public int responseBreaches(int kind) {
        return within(kind, NONE, live.desk.kinds.count - 1) ? live.desk.lateResponses(kind) : NO_SUCH_KIND;
    }

    public int resolveBreaches(int kind) {
        return within(kind, NONE, live.desk.kinds.count - 1) ? live.desk.lateSolutions(kind) : NO_SUCH_KIND;
    }

    public int resolvePercentile(int p) {
        if (!within(p, 1, 100)) {
            return OUT_OF_RANGE;
        }
        Tickets tickets = live.desk.tickets;
        return tickets.solvedClock((p * tickets.countSolved() + 99) / 100);
    }

    // ---- forecasts and replays

    public int forecast(int ticket) {
        if (!live.desk.tickets.exists(ticket)) {
            return NO_SUCH_TICKET;
        }
        trial.copyFrom(live.desk);
        trial.passUntil(WEEK);
        return trial.tickets.solvedAt[ticket];
    }

    public int breachesAhead() {
        trial.copyFrom(live.desk);
        trial.passUntil(WEEK);
        return trial.allBreaches() - live.desk.allBreaches();
    }

    public int breachesWith(int level, int number) {
        if (!within(level, 0, TOP_LEVEL) || !within(number, 0, MOST_AGENTS)) {
            return OUT_OF_RANGE;
        }
        return breachesInReplay(level, number);
    }

    public int leastAgents(int level) {
        if (!within(level, 0, TOP_LEVEL)) {
            return OUT_OF_RANGE;
        }
        for (int number = 0; number <= MOST_AGENTS; number++) {
            if (breachesInReplay(level, number) == 0) {
                return number;
            }
        }
        return NONE;
    }

    public int historyLength() {
        return live.history.length;
    }

    private int breachesInReplay(int level, int number) {
        trial.beginWeek();
        trial.kinds.copyFrom(live.desk.kinds);
        trial.agents[level] = number;
        History history = live.history;
        for (int i = 0; i < history.length; i++) {
            trial.passUntil(history.time[i]);
            if (history.type[i] != SET_AGENTS || history.first[i] != level) {
                repeatOnTrial(i);
            }
        }
        trial.passUntil(live.desk.time);
        return trial.allBreaches();
    }

    private void repeatOnTrial(int index) {
        History history = live.history;
        int type = history.type[index];
        int first = history.first[index];
        int second = history.second[index];
        int third = history.third[index];
        int fourth = history.fourth[index];
        if (trial.errorOf(type, first, second, third, fourth) == 0) {
            trial.make(type, first, second, third, fourth);
        }
    }

    // ---- log

    public int logSize() {
        return live.desk.log.size;
    }

    public int logTime(int index) {
        return ofEvent(live.desk.log.time, index);
    }

    public int logType(int index) {
        return ofEvent(live.desk.log.type, index);
    }

    public int logTicket(int index) {
        return ofEvent(live.desk.log.ticket, index);
    }

    public int logDetail(int index) {
        return ofEvent(live.desk.log.detail, index);
    }

    private int ofEvent(int[] column, int index) {
        return within(index, 0, live.desk.log.size - 1) ? column[index] : OUT_OF_RANGE;
    }

    // ---- scripts

    public int appendText(int fourBytes) {
        return script.append(fourBytes) ? script.length : FULL;
    }

    public int truncateText(int length) {
        if (!within(length, 0, script.length)) {
            return OUT_OF_RANGE;
        }
        script.length = length;
        return length;
    }

    public int runScript() {
        script.failure = 0;
        boolean sound = script.parse();
        script.length = 0;
        if (!sound) {
            return SYNTAX_ERROR;
        }
        for (int i = 0; i < script.statements; i++) {
            int[] n = script.numbers[i];
            int answer;
            switch (script.verb[i]) {
                case ADD_KIND:
                    answer = addKind(n[0], n[1], n[2], n[3], n[4], script.always[i]);
                    break;
                case PASS:
                    answer = pass(n[0]);
                    break;
                default:
                    answer = change(script.verb[i], n[0], n[1], n[2], n[3]);
            }
            if (answer < NONE) {
                script.failure = answer;
                return i;
            }
        }
        return script.statements;
    }

    public int errorCode() {
        return script.errorCode;
    }

    public int errorPosition() {
        return script.errorPosition;
    }

    public int scriptFailure() {
        return script.failure;
    }

    // ---- saved states

    public boolean save(int slot) {
        if (!within(slot, 0, SLOTS - 1)) {
            return false;
        }
        State state = saved[slot];
        if (state == null) {
            state = new State();
            saved[slot] = state;
        }
        state.copyFrom(live);
        return true;
    }

    public boolean restore(int slot) {
        if (!within(slot, 0, SLOTS - 1)) {
            return false;
        }
        State state = saved[slot];
        if (state == null) {
            return false;
        }
        live.copyFrom(state);
        return true;
    }

    private static boolean within(int value, int least, int most) {
        return value >= least && value <= most;
    }

    /** All that save and restore carry. */
    private static final class State {
        final Desk desk = new Desk(EVENTS);
        final History history = new History();

        void copyFrom(State other) {
            desk.copyFrom(other.desk);
            history.copyFrom(other.history);
        }
    }

    private static final class Kinds {
        final int[] response = new int[KINDS];
        final int[] resolve = new int[KINDS];
        final int[] effort = new int[KINDS];
        final int[] level = new int[KINDS];
        final int[] climb = new int[KINDS];
        final boolean[] always = new boolean[KINDS];
        int count;

        int add(int response, int resolve, int effort, int level, int climb, boolean always) {
            if (count >= KINDS) {
                return FULL;
            }
            int kind = count;
            this.response[kind] = response;
            this.resolve[kind] = resolve;
            this.effort[kind] = effort;
            this.level[kind] = level;
            this.climb[kind] = climb;
            this.always[kind] = always;
            count++;
            return kind;
        }

        void copyFrom(Kinds other) {
            count = other.count;
            for (int kind = 0; kind < KINDS; kind++) {
                response[kind] = other.response[kind];
                resolve[kind] = other.resolve[kind];
                effort[kind] = other.effort[kind];
                level[kind] = other.level[kind];
                climb[kind] = other.climb[kind];
                always[kind] = other.always[kind];
            }
        }
    }

    private static final class Calendar {
        final int[] opening = new int[DAYS];
        final int[] closing = new int[DAYS];

        void begin() {
            System.arraycopy(FIRST_OPENING, 0, opening, 0, DAYS);
            System.arraycopy(FIRST_CLOSING, 0, closing, 0, DAYS);
        }

        void setHours(int day, int from, int to) {
            opening[day] = from;
            closing[day] = to;
        }

        boolean opensAt(int minute) {
            if (!within(minute, 0, WEEK - 1)) {
                return false;
            }
            return within(minute % DAY, opening[minute / DAY], closing[minute / DAY] - 1);
        }

        int openBetween(int from, int to) {
            int sum = 0;
            for (int day = 0; day < DAYS; day++) {
                int first = Math.max(from, day * DAY + opening[day]);
                int behind = Math.min(to, day * DAY + closing[day]);
                sum += Math.max(0, behind - first);
            }
            return sum;
        }

        /** A minute behind the given one up to which all minutes are alike, open or closed. */
        int alikeUntil(int minute) {
            if (!within(minute, 0, WEEK - 1)) {
                return minute + 1;
            }
            int day = minute / DAY;
            if (minute < day * DAY + opening[day]) {
                return day * DAY + opening[day];
            }
            if (minute < day * DAY + closing[day]) {
                return day * DAY + closing[day];
            }
            return (day + 1) * DAY;
        }

        void copyFrom(Calendar other) {
            System.arraycopy(other.opening, 0, opening, 0, DAYS);
            System.arraycopy(other.closing, 0, closing, 0, DAYS);
        }
    }

    private static final class Log {
        final int[] time;
        final int[] type;
        final int[] ticket;
        final int[] detail;
        int size;

        Log(int room) {
            int length = Math.max(0, room);
            time = new int[length];
            type = new int[length];
            ticket = new int[length];
            detail = new int[length];
        }

        void write(int at, int event, int number, int value) {
            if (size >= time.length) {
                return;
            }
            time[size] = at;
            type[size] = event;
            ticket[size] = number;
            detail[size] = value;
            size++;
        }

        void copyFrom(Log other) {
            size = Math.min(other.size, time.length);
            System.arraycopy(other.time, 0, time, 0, size);
            System.arraycopy(other.type, 0, type, 0, size);
            System.arraycopy(other.ticket, 0, ticket, 0, size);
            System.arraycopy(other.detail, 0, detail, 0, size);
        }
    }

    private static final class History {
        final int[] time = new int[CHANGES];
        final int[] type = new int[CHANGES];
        final int[] first = new int[CHANGES];
        final int[] second = new int[CHANGES];
        final int[] third = new int[CHANGES];
        final int[] fourth = new int[CHANGES];
        int length;

        /** Whether there was room for it. */
        boolean record(int at, int change, int a, int b, int c, int d) {
            if (length >= CHANGES) {
                return false;
            }
            time[length] = at;
            type[length] = change;
            first[length] = a;
            second[length] = b;
            third[length] = c;
            fourth[length] = d;
            length++;
            return true;
        }

        void copyFrom(History other) {
            length = other.length;
            System.arraycopy(other.time, 0, time, 0, length);
            System.arraycopy(other.type, 0, type, 0, length);
            System.arraycopy(other.first, 0, first, 0, length);
            System.arraycopy(other.second, 0, second, 0, length);
            System.arraycopy(other.third, 0, third, 0, length);
            System.arraycopy(other.fourth, 0, fourth, 0, length);
        }
    }

    private static final class Tickets {
        final int[] kind = new int[TICKETS];
        final int[] customer = new int[TICKETS];
        final int[] subject = new int[TICKETS];
        final int[] priority = new int[TICKETS];
        final int[] level = new int[TICKETS];
        final int[] state = new int[TICKETS];
        final int[] progress = new int[TICKETS];
        final int[] levelClock = new int[TICKETS];
        final int[] responseClock = new int[TICKETS];
        final int[] resolveClock = new int[TICKETS];
        final int[] root = new int[TICKETS];
        final int[] reportedAt = new int[TICKETS];
        final int[] answeredAt = new int[TICKETS];
        final int[] solvedAt = new int[TICKETS];
        int count;

        boolean isFull() {
            return count >= TICKETS;
        }

        boolean exists(int ticket) {
            return ticket >= 0 && ticket < count;
        }

        int add(int ofKind, int ofCustomer, int ofSubject, int withPriority, int at) {
            int ticket = count;
            kind[ticket] = ofKind;
            customer[ticket] = ofCustomer;
            subject[ticket] = ofSubject;
            priority[ticket] = withPriority;
            level[ticket] = 0;
            state[ticket] = QUEUED;
            progress[ticket] = 0;
            levelClock[ticket] = 0;
            responseClock[ticket] = 0;
            resolveClock[ticket] = 0;
            root[ticket] = NONE;
            reportedAt[ticket] = at;
            answeredAt[ticket] = NONE;
            solvedAt[ticket] = NONE;
            count++;
            return ticket;
        }

        boolean isActive(int ticket) {
            return state[ticket] == QUEUED || state[ticket] == IN_WORK;
        }

        /** Whether it is neither SOLVED nor a TWIN. */
        boolean standsAlone(int ticket) {
            return state[ticket] != SOLVED && state[ticket] != TWIN;
        }

        boolean isAnswered(int ticket) {
            return answeredAt[ticket] != NONE;
        }

        boolean responseRuns(int ticket) {
            if (isAnswered(ticket)) {
                return false;
            }
            if (state[ticket] == TWIN) {
                return exists(root[ticket]) && !isAnswered(root[ticket]);
            }
            return state[ticket] == QUEUED || state[ticket] == PAUSED;
        }

        boolean resolveRuns(int ticket) {
            if (state[ticket] == TWIN) {
                return exists(root[ticket]) && isActive(root[ticket]);
            }
            return isActive(ticket);
        }

        int countAt(int atLevel, int inState) {
            int sum = 0;
            for (int t = 0; t < count; t++) {
                if (state[t] == inState && level[t] == atLevel) {
                    sum++;
                }
            }
            return sum;
        }

        int countSolved() {
            int sum = 0;
            for (int t = 0; t < count; t++) {
                if (state[t] == SOLVED) {
                    sum++;
                }
            }
            return sum;
        }

        long twinMask(int ofRoot) {
            long mask = 0;
            for (int t = 0; t < count; t++) {
                if (root[t] == ofRoot) {
                    mask |= 1L << t;
                }
            }
            return mask;
        }

        long unsolvedMask(int ofCustomer) {
            long mask = 0;
            for (int t = 0; t < count; t++) {
                if (customer[t] == ofCustomer && state[t] != SOLVED) {
                    mask |= 1L << t;
                }
            }
            return mask;
        }

        int sameFaultBefore(int ticket) {
            for (int t = 0; t < ticket; t++) {
                if (standsAlone(t) && kind[t] == kind[ticket] && subject[t] == subject[ticket]
                        && reportedAt[ticket] - reportedAt[t] <= SAME_FAULT_MINUTES) {
                    return t;
                }
            }
            return NONE;
        }

        /** The resolve clock of a SOLVED ticket that has the given rank, found by counting, so that no list is made. */
        int solvedClock(int rank) {
            for (int t = 0; t < count; t++) {
                if (state[t] == SOLVED && solvedBelow(resolveClock[t]) < rank
                        && solvedBelow(resolveClock[t] + 1) >= rank) {
                    return resolveClock[t];
                }
            }
            return NONE;
        }

        private int solvedBelow(int clock) {
            int sum = 0;
            for (int t = 0; t < count; t++) {
                if (state[t] == SOLVED && resolveClock[t] < clock) {
                    sum++;
                }
            }
            return sum;
        }

        void copyFrom(Tickets other) {
            count = other.count;
            System.arraycopy(other.kind, 0, kind, 0, TICKETS);
            System.arraycopy(other.customer, 0, customer, 0, TICKETS);
            System.arraycopy(other.subject, 0, subject, 0, TICKETS);
            System.arraycopy(other.priority, 0, priority, 0, TICKETS);
            System.arraycopy(other.level, 0, level, 0, TICKETS);
            System.arraycopy(other.state, 0, state, 0, TICKETS);
            System.arraycopy(other.progress, 0, progress, 0, TICKETS);
            System.arraycopy(other.levelClock, 0, levelClock, 0, TICKETS);
            System.arraycopy(other.responseClock, 0, responseClock, 0, TICKETS);
            System.arraycopy(other.resolveClock, 0, resolveClock, 0, TICKETS);
            System.arraycopy(other.root, 0, root, 0, TICKETS);
            System.arraycopy(other.reportedAt, 0, reportedAt, 0, TICKETS);
            System.arraycopy(other.answeredAt, 0, answeredAt, 0, TICKETS);
            System.arraycopy(other.solvedAt, 0, solvedAt, 0, TICKETS);
        }
    }

    /** What a change or a minute acts upon: the live desk, or the one on which it is tried. */
    private static final class Desk {
        final Calendar calendar = new Calendar();
        final Kinds kinds = new Kinds();
        final int[] agents = new int[LEVELS];
        final Tickets tickets = new Tickets();
        final Log log;
        int time;

        Desk(int eventRoom) {
            log = new Log(eventRoom);
            beginWeek();
        }

        /** The kinds stay: they are no part of the history, so a replay has them from the beginning. */
        void beginWeek() {
            time = 0;
            calendar.begin();
            Arrays.fill(agents, 1);
            tickets.count = 0;
        }

        void copyFrom(Desk other) {
            time = other.time;
            calendar.copyFrom(other.calendar);
            kinds.copyFrom(other.kinds);
            System.arraycopy(other.agents, 0, agents, 0, LEVELS);
            tickets.copyFrom(other.tickets);
            log.copyFrom(other.log);
        }

        // ---- changes

        /** The error that a change would return here, but for a full history; 0 if none. */
        int errorOf(int change, int a, int b, int c, int d) {
            switch (change) {
                case SET_DAY:
                    return dayError(a, b, c);
                case SET_AGENTS:
                    return within(a, 0, TOP_LEVEL) && within(b, 0, MOST_AGENTS) ? 0 : OUT_OF_RANGE;
                case REPORT:
                    return reportError(a, b, c, d);
                case JOIN:
                    return joinError(a, b);
                case SET_PRIORITY:
                    return priorityError(a, b);
                default:
                    return ticketError(change, a);
            }
        }

        private int dayError(int day, int from, int to) {
            boolean closed = from == 0 && to == 0;
            boolean opens = within(from, 0, DAY - 1) && within(to, from + 1, DAY);
            return within(day, 0, DAYS - 1) && (closed || opens) ? 0 : OUT_OF_RANGE;
        }

        private int reportError(int kind, int customer, int subject, int priority) {
            if (!within(kind, 0, kinds.count - 1)) {
                return NO_SUCH_KIND;
            }
            if (!within(customer, 0, MOST_CUSTOMER) || !within(subject, 0, MOST_SUBJECT)
                    || !within(priority, 0, MOST_PRIORITY)) {
                return OUT_OF_RANGE;
            }
            return tickets.isFull() ? FULL : 0;
        }

        private int joinError(int ticket, int root) {
            if (!tickets.exists(ticket) || !tickets.exists(root)) {
                return NO_SUCH_TICKET;
            }
            boolean joins = ticket != root && tickets.standsAlone(ticket) && tickets.standsAlone(root);
            return joins ? 0 : WRONG_STATE;
        }

        private int priorityError(int ticket, int priority) {
            if (!tickets.exists(ticket)) {
                return NO_SUCH_TICKET;
            }
            if (!within(priority, 0, MOST_PRIORITY)) {
                return OUT_OF_RANGE;
            }
            return tickets.state[ticket] == SOLVED ? WRONG_STATE : 0;
        }

        private int ticketError(int change, int ticket) {
            if (!tickets.exists(ticket)) {
                return NO_SUCH_TICKET;
            }
            return allows(change, ticket) ? 0 : WRONG_STATE;
        }

        private boolean allows(int change, int ticket) {
            switch (change) {
                case PAUSE:
                    return tickets.isActive(ticket);
                case RESUME:
                    return tickets.state[ticket] == PAUSED;
                case CLIMB:
                    return tickets.isActive(ticket) && tickets.level[ticket] < TOP_LEVEL;
                case SOLVE:
                    return tickets.standsAlone(ticket);
                case REOPEN:
                    return tickets.state[ticket] == SOLVED && tickets.root[ticket] == NONE;
                case PART:
                    return tickets.state[ticket] == TWIN;
                default:
                    return false;
            }
        }

        /** Makes a change for which errorOf has told no error. */
        int make(int change, int a, int b, int c, int d) {
            switch (change) {
                case SET_DAY:
                    calendar.setHours(a, b, c);
                    return 0;
                case SET_AGENTS:
                    return staff(a, b);
                case REPORT:
                    return enter(a, b, c, d);
                case PAUSE:
                    return move(a, PAUSED, EVENT_PAUSED);
                case RESUME:
                    return move(a, QUEUED, EVENT_RESUMED);
                case CLIMB:
                    return raise(a, time);
                case SOLVE:
                    return finish(a, time);
                case REOPEN:
                    return reviveWithTwins(a);
                case JOIN:
                    return tie(a, b);
                case PART:
                    return untie(a);
                case SET_PRIORITY:
                    return rank(a, b);
                default:
                    return 0;
            }
        }

        private int staff(int level, int number) {
            int previous = agents[level];
            agents[level] = number;
            int tooMany = tickets.countAt(level, IN_WORK) - number;
            for (int t = tickets.count - 1; t >= 0 && tooMany > 0; t--) {
                if (tickets.state[t] == IN_WORK && tickets.level[t] == level) {
                    tickets.state[t] = QUEUED;
                    tooMany--;
                }
            }
            return previous;
        }

        private int enter(int kind, int customer, int subject, int priority) {
            int ticket = tickets.add(kind, customer, subject, priority, time);
            log.write(time, EVENT_REPORTED, ticket, kind);
            return ticket;
        }

        private int move(int ticket, int state, int event) {
            tickets.state[ticket] = state;
            log.write(time, event, ticket, 0);
            return tickets.resolveClock[ticket];
        }

        private int raise(int ticket, int at) {
            tickets.level[ticket]++;
            tickets.state[ticket] = QUEUED;
            tickets.progress[ticket] = 0;
            tickets.levelClock[ticket] = 0;
            log.write(at, EVENT_CLIMBED, ticket, tickets.level[ticket]);
            return tickets.level[ticket];
        }

        private int finish(int ticket, int at) {
            markSolved(ticket, at);
            int solved = 1;
            for (int t = 0; t < tickets.count; t++) {
                if (tickets.root[t] == ticket) {
                    markSolved(t, at);
                    solved++;
                }
            }
            return solved;
        }

        private void markSolved(int ticket, int at) {
            tickets.state[ticket] = SOLVED;
            tickets.solvedAt[ticket] = at;
            log.write(at, EVENT_SOLVED, ticket, 0);
        }

        private int reviveWithTwins(int ticket) {
            revive(ticket, QUEUED);
            tickets.progress[ticket] = 0;
            tickets.levelClock[ticket] = 0;
            log.write(time, EVENT_REOPENED, ticket, 0);
            int revived = 1;
            for (int t = 0; t < tickets.count; t++) {
                if (tickets.root[t] == ticket) {
                    revive(t, TWIN);
                    revived++;
                }
            }
            return revived;
        }

        private void revive(int ticket, int state) {
            tickets.state[ticket] = state;
            tickets.solvedAt[ticket] = NONE;
        }

        private int tie(int ticket, int root) {
            for (int t = 0; t < tickets.count; t++) {
                if (tickets.root[t] == ticket) {
                    tickets.root[t] = root;
                }
            }
            tickets.state[ticket] = TWIN;
            tickets.root[ticket] = root;
            log.write(time, EVENT_JOINED, ticket, root);
            return Long.bitCount(tickets.twinMask(root));
        }

        private int untie(int ticket) {
            int root = tickets.root[ticket];
            tickets.state[ticket] = QUEUED;
            tickets.root[ticket] = NONE;
            log.write(time, EVENT_PARTED, ticket, root);
            return root;
        }

        private int rank(int ticket, int priority) {
            int previous = tickets.priority[ticket];
            tickets.priority[ticket] = priority;
            return previous;
        }

        // ---- minutes

        /**
         * Minutes pass in stretches: minutes that are alike, and of which only the last one may end with an event.
         * What is done for a stretch is what its minutes would do one by one, in far fewer rounds.
         */
        void passUntil(int end) {
            for (int stretches = 0; stretches < WEEK && time < end; stretches++) {
                boolean open = calendar.opensAt(time);
                if (open) {
                    takeTickets();
                }
                int span = stretch(end, open);
                growClocks(span, open);
                if (open) {
                    work(span);
                }
                climbWaiting(time + span);
                time += span;
            }
        }

        private void takeTickets() {
            for (int level = 0; level < LEVELS; level++) {
                for (int busy = tickets.countAt(level, IN_WORK); busy < agents[level]; busy++) {
                    int ticket = firstQueued(level);
                    if (ticket == NONE) {
                        break;
                    }
                    take(ticket);
                }
            }
        }

        int firstQueued(int level) {
            int first = NONE;
            for (int t = 0; t < tickets.count; t++) {
                if (tickets.state[t] == QUEUED && tickets.level[t] == level
                        && (first == NONE || isMoreUrgent(t, first))) {
                    first = t;
                }
            }
            return first;
        }

        private boolean isMoreUrgent(int ticket, int other) {
            if (tickets.priority[ticket] != tickets.priority[other]) {
                return tickets.priority[ticket] > tickets.priority[other];
            }
            return minutesLeft(ticket) < minutesLeft(other);
        }

        private int minutesLeft(int ticket) {
            return kinds.resolve[tickets.kind[ticket]] - tickets.resolveClock[ticket];
        }

        private void take(int ticket) {
            tickets.state[ticket] = IN_WORK;
            if (!tickets.isAnswered(ticket)) {
                tickets.answeredAt[ticket] = time;
            }
            log.write(time, EVENT_TAKEN, ticket, tickets.level[ticket]);
        }

        private int stretch(int end, boolean open) {
            int span = Math.min(end, calendar.alikeUntil(time)) - time;
            for (int t = 0; t < tickets.count; t++) {
                if (counts(t, open)) {
                    span = Math.min(span, minutesToClockEvent(t));
                }
                if (open && tickets.state[t] == IN_WORK) {
                    span = Math.min(span, kinds.effort[tickets.kind[t]] - tickets.progress[t]);
                }
            }
            return Math.max(1, span);
        }

        private int minutesToClockEvent(int ticket) {
            int kind = tickets.kind[ticket];
            int minutes = WEEK;
            if (tickets.responseRuns(ticket)) {
                minutes = Math.min(minutes, minutesToBreach(tickets.responseClock[ticket], kinds.response[kind]));
            }
            if (tickets.resolveRuns(ticket)) {
                minutes = Math.min(minutes, minutesToBreach(tickets.resolveClock[ticket], kinds.resolve[kind]));
            }
            if (tickets.state[ticket] == QUEUED && climbsByItself(ticket)) {
                minutes = Math.min(minutes, kinds.climb[kind] - tickets.levelClock[ticket]);
            }
            return minutes;
        }

        private static int minutesToBreach(int clock, int target) {
            return clock > target ? WEEK : target + 1 - clock;
        }

        private boolean counts(int ticket, boolean open) {
            return open || kinds.always[tickets.kind[ticket]];
        }

        private boolean climbsByItself(int ticket) {
            return kinds.climb[tickets.kind[ticket]] != 0 && tickets.level[ticket] < TOP_LEVEL;
        }

        private void growClocks(int span, boolean open) {
            for (int t = 0; t < tickets.count; t++) {
                if (!counts(t, open)) {
                    continue;
                }
                int kind = tickets.kind[t];
                if (tickets.responseRuns(t)) {
                    grow(tickets.responseClock, t, span, kinds.response[kind], EVENT_RESPONSE_BREACH);
                }
                if (tickets.resolveRuns(t)) {
                    grow(tickets.resolveClock, t, span, kinds.resolve[kind], EVENT_RESOLVE_BREACH);
                }
                if (tickets.state[t] == QUEUED) {
                    tickets.levelClock[t] += span;
                }
            }
        }

        private void grow(int[] clock, int ticket, int span, int target, int breach) {
            int before = clock[ticket];
            clock[ticket] = before + span;
            if (before <= target && before + span > target) {
                log.write(time + span, breach, ticket, target);
            }
        }

        private void work(int span) {
            for (int t = 0; t < tickets.count; t++) {
                if (tickets.state[t] != IN_WORK) {
                    continue;
                }
                int kind = tickets.kind[t];
                tickets.progress[t] += span;
                if (tickets.progress[t] < kinds.effort[kind]) {
                    continue;
                }
                if (tickets.level[t] >= kinds.level[kind]) {
                    finish(t, time + span);
                } else {
                    raise(t, time + span);
                }
            }
        }

        private void climbWaiting(int at) {
            for (int t = 0; t < tickets.count; t++) {
                if (tickets.state[t] == QUEUED && climbsByItself(t)
                        && tickets.levelClock[t] >= kinds.climb[tickets.kind[t]]) {
                    raise(t, at);
                }
            }
        }

        // ---- breaches

        int lateResponses(int kind) {
            return countLate(kind, tickets.responseClock, kinds.response);
        }

        int lateSolutions(int kind) {
            return countLate(kind, tickets.resolveClock, kinds.resolve);
        }

        /** Clocks never go back, so a ticket had a breach just if its clock is above the target now. */
        private int countLate(int kind, int[] clock, int[] target) {
            int sum = 0;
            for (int t = 0; t < tickets.count; t++) {
                int own = tickets.kind[t];
                if ((kind == NONE || own == kind) && clock[t] > target[own]) {
                    sum++;
                }
            }
            return sum;
        }

        int allBreaches() {
            return lateResponses(NONE) + lateSolutions(NONE);
        }
    }

    /** The text buffer, its parser and what the latest run told. */
    private static final class Script {
        private static final int END = 0;
        private static final int WORD = 1;
        private static final int NUMBER = 2;
        private static final int SEMICOLON = 3;
        private static final int STRAY_BYTE = 4;

        private static final int NOT_ALLOWED = 1;
        private static final int NUMBER_TOO_GREAT = 2;
        private static final int TOO_MANY_STATEMENTS = 3;

        final byte[] text = new byte[TEXT_BYTES];
        int length;
        final int[] verb = new int[STATEMENTS];
        final int[][] numbers = new int[STATEMENTS][MOST_ARGUMENTS];
        final boolean[] always = new boolean[STATEMENTS];
        int statements;
        int errorCode;
        int errorPosition = NONE;
        int failure;
        private int token;
        private int start;
        private int next;
        private int number;

        boolean append(int fourBytes) {
            if (length > TEXT_BYTES - 4) {
                return false;
            }
            for (int shift = 24; shift >= 0; shift -= 8) {
                text[length] = (byte) (fourBytes >> shift);
                length++;
            }
            return true;
        }

        boolean parse() {
            errorCode = 0;
            errorPosition = NONE;
            next = 0;
            for (int parsed = 0; parsed <= STATEMENTS; parsed++) {
                statements = parsed;
                readToken();
                if (token == END) {
                    return true;
                }
                int word = verbOfToken();
                if (word == NONE) {
                    return fail(NOT_ALLOWED);
                }
                if (parsed == STATEMENTS) {
                    return fail(TOO_MANY_STATEMENTS);
                }
                if (!parseStatement(parsed, word)) {
                    return false;
                }
            }
            return false;
        }

        private boolean parseStatement(int index, int word) {
            verb[index] = word;
            int[] row = numbers[index];
            Arrays.fill(row, 0);
            for (int i = 0; i < ARGUMENTS[word]; i++) {
                readToken();
                if (token != NUMBER) {
                    return fail(NOT_ALLOWED);
                }
                if (number > MOST_NUMBER) {
                    return fail(NUMBER_TOO_GREAT);
                }
                row[i] = number;
            }
            readToken();
            always[index] = word == ADD_KIND && isWord("always");
            if (always[index]) {
                readToken();
            }
            return token == SEMICOLON || fail(NOT_ALLOWED);
        }

        private boolean fail(int code) {
            errorCode = code;
            errorPosition = start;
            return false;
        }

        private int verbOfToken() {
            for (int word = 0; word < VERBS; word++) {
                if (isWord(wordOf(word))) {
                    return word;
                }
            }
            return NONE;
        }

        private boolean isWord(String word) {
            if (token != WORD || next - start != word.length()) {
                return false;
            }
            for (int i = 0; i < word.length(); i++) {
                if (text[start + i] != word.charAt(i)) {
                    return false;
                }
            }
            return true;
        }

        private static String wordOf(int verb) {
            switch (verb) {
                case SET_DAY:
                    return "day";
                case ADD_KIND:
                    return "kind";
                case SET_AGENTS:
                    return "agents";
                case REPORT:
                    return "report";
                case PAUSE:
                    return "pause";
                case RESUME:
                    return "resume";
                case CLIMB:
                    return "climb";
                case SOLVE:
                    return "solve";
                case REOPEN:
                    return "reopen";
                case JOIN:
                    return "join";
                case PART:
                    return "part";
                case SET_PRIORITY:
                    return "priority";
                case PASS:
                    return "pass";
                default:
                    return "";
            }
        }

        private void readToken() {
            while (next < length && isSpace(text[next])) {
                next++;
            }
            start = next;
            if (next >= length) {
                token = END;
            } else if (isLetter(text[next])) {
                token = WORD;
                readWord();
            } else if (isDigit(text[next])) {
                token = NUMBER;
                readNumber();
            } else {
                token = text[next] == ';' ? SEMICOLON : STRAY_BYTE;
                next++;
            }
        }

        private void readWord() {
            while (next < length && isLetter(text[next])) {
                next++;
            }
        }

        /** A number may have any number of digits, so its value stops growing once it is too great. */
        private void readNumber() {
            number = 0;
            while (next < length && isDigit(text[next])) {
                number = Math.min(number * 10 + text[next] - '0', MOST_NUMBER + 1);
                next++;
            }
        }

        private static boolean isSpace(int sign) {
            return sign == ' ' || sign == '\n';
        }

        private static boolean isLetter(int sign) {
            return sign >= 'a' && sign <= 'z';
        }

        private static boolean isDigit(int sign) {
            return sign >= '0' && sign <= '9';
        }
    }
}
