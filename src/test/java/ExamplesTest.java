/** The five examples of the document, and its constants. */
public final class ExamplesTest {
    private static final Check check = new Check();

    public static void main(String[] args) {
        constants();
        first();
        second();
        third();
        fourth();
        fifth();
        check.finish();
    }

    private static void constants() {
        check.due(1, "NONE", HelpDesk.NONE, -1);
        check.due(1, "NO_SUCH_TICKET", HelpDesk.NO_SUCH_TICKET, -2);
        check.due(1, "NO_SUCH_KIND", HelpDesk.NO_SUCH_KIND, -3);
        check.due(1, "OUT_OF_RANGE", HelpDesk.OUT_OF_RANGE, -4);
        check.due(1, "WRONG_STATE", HelpDesk.WRONG_STATE, -5);
        check.due(1, "FULL", HelpDesk.FULL, -6);
        check.due(1, "SYNTAX_ERROR", HelpDesk.SYNTAX_ERROR, -7);
    }

    private static void first() {
        HelpDesk x = new HelpDesk();
        check.due(7, "addKind", x.addKind(10, 60, 20, 0, 0, true), 0);
        check.due(2, "setDay", x.setDay(0, 0, 1440), 0);
        check.due(11, "report", x.report(0, 7, 5, 1), 0);
        check.due(20, "pass", x.pass(5), 0);
        check.due(23, "stateOf", x.stateOf(0), 1);
        check.due(31, "answeredAt", x.answeredAt(0), 0);
        check.due(27, "progress", x.progress(0), 5);
        check.due(43, "forecast", x.forecast(0), 20);
        check.due(20, "pass", x.pass(15), 1);
        check.due(32, "solvedAt", x.solvedAt(0), 20);
        check.due(34, "resolveClock", x.resolveClock(0), 20);
    }

    private static void second() {
        HelpDesk x = new HelpDesk();
        check.due(7, "addKind", x.addKind(10, 30, 20, 1, 0, false), 0);
        check.due(2, "setDay", x.setDay(0, 0, 1440), 0);
        check.due(11, "report", x.report(0, 7, 5, 1), 0);
        check.due(20, "pass", x.pass(20), 0);
        check.due(23, "stateOf", x.stateOf(0), 0);
        check.due(25, "levelOf", x.levelOf(0), 1);
        check.due(20, "pass", x.pass(15), 0);
        check.due(41, "resolveBreaches", x.resolveBreaches(-1), 1);
        check.due(20, "pass", x.pass(5), 1);
        check.due(32, "solvedAt", x.solvedAt(0), 40);
        check.due(48, "logSize", x.logSize(), 6);
        check.due(50, "logType", x.logType(2), 4);
    }

    private static void third() {
        HelpDesk x = new HelpDesk();
        check.due(7, "addKind", x.addKind(10, 60, 20, 0, 0, true), 0);
        check.due(11, "report", x.report(0, 1, 5, 0), 0);
        check.due(11, "report", x.report(0, 2, 5, 3), 1);
        check.due(36, "nextTicket", x.nextTicket(0), 1);
        check.due(38, "suggestRoot", x.suggestRoot(1), 0);
        check.due(17, "join", x.join(1, 0), 1);
        check.due(23, "stateOf", x.stateOf(1), 4);
        check.due(29, "twins", x.twins(0), 2);
        check.due(15, "solve", x.solve(0), 2);
        check.due(28, "rootOf", x.rootOf(1), 0);
        check.due(16, "reopen", x.reopen(0), 2);
        check.due(18, "part", x.part(1), 0);
    }

    private static void fourth() {
        HelpDesk x = new HelpDesk();
        check.due(7, "addKind", x.addKind(5, 60, 20, 0, 0, true), 0);
        check.due(2, "setDay", x.setDay(0, 0, 1440), 0);
        check.due(11, "report", x.report(0, 1, 5, 0), 0);
        check.due(11, "report", x.report(0, 2, 5, 0), 1);
        check.due(20, "pass", x.pass(30), 1);
        check.due(40, "responseBreaches", x.responseBreaches(0), 1);
        check.due(45, "breachesWith", x.breachesWith(0, 1), 1);
        check.due(45, "breachesWith", x.breachesWith(0, 2), 0);
        check.due(46, "leastAgents", x.leastAgents(0), 2);
        check.due(46, "leastAgents", x.leastAgents(4), -4);
    }

    private static void fifth() {
        HelpDesk x = new HelpDesk();
        check.due(53, "appendText", x.appendText(1885434739), 4);
        check.due(53, "appendText", x.appendText(540096544), 8);
        check.due(55, "runScript", x.runScript(), -7);
        check.due(56, "errorCode", x.errorCode(), 1);
        check.due(57, "errorPosition", x.errorPosition(), 8);
        check.due(11, "report", x.report(0, 1, 1, 1), -3);
        check.due(2, "setDay", x.setDay(0, 5, 5), -4);
        check.due(12, "pause", x.pause(0), -2);
        check.due(5, "isOpen", x.isOpen(540), 1);
        check.due(6, "openMinutes", x.openMinutes(0, 1440), 480);
    }
}
