/** Promises 1 to 6: a new desk and its calendar. */
public final class CalendarTest {
    private static final Check check = new Check();

    public static void main(String[] args) {
        newDesk();
        firstCalendar();
        setDay();
        wrongDays();
        openMinutes();
        calendarOfThePresent();
        check.finish();
    }

    private static void newDesk() {
        HelpDesk x = new HelpDesk();
        check.due(1, "now", x.now(), 0);
        check.due(1, "kindCount", x.kindCount(), 0);
        check.due(1, "ticketCount", x.ticketCount(), 0);
        check.due(1, "historyLength", x.historyLength(), 0);
        check.due(1, "logSize", x.logSize(), 0);
        check.due(1, "truncateText(0)", x.truncateText(0), 0);
        check.due(1, "truncateText(1)", x.truncateText(1), HelpDesk.OUT_OF_RANGE);
        check.due(1, "restore(0)", x.restore(0), false);
        check.due(1, "restore(1)", x.restore(1), false);
        for (int level = 0; level < 4; level++) {
            check.due(1, "agents", x.agents(level), 1);
        }
    }

    private static void firstCalendar() {
        HelpDesk x = new HelpDesk();
        for (int day = 0; day < 7; day++) {
            check.due(3, "first opening of " + day, x.openingMinute(day), day < 5 ? 540 : 0);
            check.due(4, "first closing of " + day, x.closingMinute(day), day < 5 ? 1020 : 0);
        }
        for (int day : new int[] {-1, 7, Integer.MIN_VALUE, Integer.MAX_VALUE}) {
            check.due(3, "openingMinute " + day, x.openingMinute(day), HelpDesk.OUT_OF_RANGE);
            check.due(4, "closingMinute " + day, x.closingMinute(day), HelpDesk.OUT_OF_RANGE);
        }
        check.due(5, "before opening", x.isOpen(1440 + 539), 0);
        check.due(5, "opening", x.isOpen(1440 + 540), 1);
        check.due(5, "last open minute", x.isOpen(1440 + 1019), 1);
        check.due(5, "closing", x.isOpen(1440 + 1020), 0);
        check.due(5, "closed day", x.isOpen(5 * 1440 + 600), 0);
        check.due(5, "minute 0 of a closed day", x.isOpen(5 * 1440), 0);
        check.due(5, "last minute", x.isOpen(10079), 0);
        check.due(5, "behind the last minute", x.isOpen(10080), HelpDesk.OUT_OF_RANGE);
        check.due(5, "before the first minute", x.isOpen(-1), HelpDesk.OUT_OF_RANGE);
        check.due(5, "far off", x.isOpen(Integer.MAX_VALUE), HelpDesk.OUT_OF_RANGE);
    }

    private static void setDay() {
        HelpDesk x = new HelpDesk();
        check.due(2, "whole day", x.setDay(6, 0, 1440), 0);
        check.due(2, "open at the end", x.isOpen(10079), 1);
        check.due(2, "one minute", x.setDay(5, 1439, 1440), 0);
        check.due(2, "before it", x.isOpen(5 * 1440 + 1438), 0);
        check.due(2, "in it", x.isOpen(5 * 1440 + 1439), 1);
        check.due(2, "closed", x.setDay(0, 0, 0), 0);
        check.due(2, "closed day", x.openMinutes(0, 1440), 0);
        check.due(2, "first minute", x.setDay(0, 0, 1), 0);
        check.due(2, "one open minute", x.openMinutes(0, 1440), 1);
        check.due(5, "minute 0", x.isOpen(0), 1);
        check.due(5, "minute 1", x.isOpen(1), 0);
        check.due(2, "recorded", x.historyLength(), 4);
        check.due(2, "no events", x.logSize(), 0);
        check.due(3, "opening", x.openingMinute(5), 1439);
        check.due(4, "closing", x.closingMinute(5), 1440);
        check.due(3, "another day stays", x.openingMinute(4), 540);
    }

    private static void wrongDays() {
        HelpDesk x = new HelpDesk();
        int[][] wrong = {{-1, 0, 1}, {7, 0, 1}, {0, -1, 1}, {0, 1440, 1441}, {0, 5, 5}, {0, 5, 4}, {0, 5, 0},
            {0, 0, 1441}, {0, 0, -1}, {0, 1440, 0}, {0, -5, 0}, {0, Integer.MAX_VALUE, Integer.MIN_VALUE},
            {Integer.MIN_VALUE, 0, 0}};
        for (int[] w : wrong) {
            check.due(2, "setDay " + w[0] + " " + w[1] + " " + w[2], x.setDay(w[0], w[1], w[2]),
                    HelpDesk.OUT_OF_RANGE);
        }
        check.due(2, "nothing recorded", x.historyLength(), 0);
        check.due(2, "nothing changed", x.openingMinute(0), 540);
        for (int i = 0; i < 200; i++) {
            check.due(2, "change " + i, x.setDay(i % 7, 1, 2), 0);
        }
        check.due(2, "a full history", x.setDay(0, 3, 4), HelpDesk.FULL);
        check.due(2, "range before full", x.setDay(7, 3, 4), HelpDesk.OUT_OF_RANGE);
        check.due(2, "the day stays", x.openingMinute(0), 1);
        check.due(2, "the history stays", x.historyLength(), 200);
    }

    private static void openMinutes() {
        HelpDesk x = new HelpDesk();
        check.due(6, "a week", x.openMinutes(0, 10080), 2400);
        check.due(6, "nothing", x.openMinutes(600, 600), 0);
        check.due(6, "the end", x.openMinutes(10080, 10080), 0);
        check.due(6, "one open minute", x.openMinutes(540, 541), 1);
        check.due(6, "one closed minute", x.openMinutes(1020, 1021), 0);
        check.due(6, "over night", x.openMinutes(1000, 1440 + 550), 30);
        check.due(6, "the weekend", x.openMinutes(5 * 1440, 10080), 0);
        check.due(6, "backwards", x.openMinutes(601, 600), HelpDesk.OUT_OF_RANGE);
        check.due(6, "before 0", x.openMinutes(-1, 600), HelpDesk.OUT_OF_RANGE);
        check.due(6, "behind the week", x.openMinutes(0, 10081), HelpDesk.OUT_OF_RANGE);
        check.due(6, "from behind the week", x.openMinutes(10081, 10081), HelpDesk.OUT_OF_RANGE);
        int sum = 0;
        for (int minute = 700; minute < 900; minute++) {
            sum += x.isOpen(minute);
        }
        check.due(6, "as isOpen tells", x.openMinutes(700, 900), sum);
    }

    /** The calendar counts from the change on, also for minutes that have passed. */
    private static void calendarOfThePresent() {
        HelpDesk x = new HelpDesk();
        x.pass(2000);
        x.setDay(0, 0, 1440);
        check.due(5, "a past minute by the present calendar", x.isOpen(3), 1);
        check.due(6, "a past day by the present calendar", x.openMinutes(0, 1440), 1440);
    }
}
