/** Promises 7 to 10: kinds and agents. */
public final class KindsAndAgentsTest {
    private static final Check check = new Check();

    public static void main(String[] args) {
        kinds();
        wrongKinds();
        agents();
        fewerAgents();
        fewerAgentsAmongTheBusy();
        fullHistory();
        check.finish();
    }

    private static void kinds() {
        HelpDesk x = new HelpDesk();
        check.due(8, "kindCount", x.kindCount(), 0);
        check.due(7, "all least", x.addKind(0, 0, 1, 0, 0, false), 0);
        check.due(7, "all greatest", x.addKind(10080, 10080, 480, 3, 10080, true), 1);
        for (int kind = 2; kind < 6; kind++) {
            check.due(7, "kind " + kind, x.addKind(1, 2, 3, 1, 4, true), kind);
            check.due(8, "kindCount", x.kindCount(), kind + 1);
        }
        check.due(7, "a seventh kind", x.addKind(1, 2, 3, 1, 4, true), HelpDesk.FULL);
        check.due(7, "range before full", x.addKind(1, 2, 0, 1, 4, true), HelpDesk.OUT_OF_RANGE);
        check.due(8, "kindCount", x.kindCount(), 6);
        check.due(7, "kinds are not recorded", x.historyLength(), 0);
    }

    private static void wrongKinds() {
        HelpDesk x = new HelpDesk();
        int[][] wrong = {{-1, 0, 1, 0, 0}, {10081, 0, 1, 0, 0}, {0, -1, 1, 0, 0}, {0, 10081, 1, 0, 0},
            {0, 0, 0, 0, 0}, {0, 0, 481, 0, 0}, {0, 0, 1, -1, 0}, {0, 0, 1, 4, 0}, {0, 0, 1, 0, -1},
            {0, 0, 1, 0, 10081}, {Integer.MIN_VALUE, 0, 1, 0, 0}, {0, 0, Integer.MAX_VALUE, 0, 0}};
        for (int[] w : wrong) {
            check.due(7, "addKind", x.addKind(w[0], w[1], w[2], w[3], w[4], true), HelpDesk.OUT_OF_RANGE);
        }
        check.due(8, "kindCount", x.kindCount(), 0);
        check.due(7, "none was added", x.report(0, 0, 0, 0), HelpDesk.NO_SUCH_KIND);
    }

    private static void agents() {
        HelpDesk x = new HelpDesk();
        check.due(9, "previous", x.setAgents(3, 9), 1);
        check.due(9, "previous", x.setAgents(3, 0), 9);
        check.due(9, "the same number", x.setAgents(3, 0), 0);
        check.due(10, "agents", x.agents(3), 0);
        check.due(10, "another level", x.agents(2), 1);
        check.due(9, "recorded", x.historyLength(), 3);
        for (int level : new int[] {-1, 4, Integer.MIN_VALUE, Integer.MAX_VALUE}) {
            check.due(9, "setAgents " + level, x.setAgents(level, 1), HelpDesk.OUT_OF_RANGE);
            check.due(10, "agents " + level, x.agents(level), HelpDesk.OUT_OF_RANGE);
        }
        check.due(9, "-1 agents", x.setAgents(0, -1), HelpDesk.OUT_OF_RANGE);
        check.due(9, "10 agents", x.setAgents(0, 10), HelpDesk.OUT_OF_RANGE);
        check.due(10, "agents", x.agents(0), 1);
        check.due(9, "not recorded", x.historyLength(), 3);
    }

    private static void fewerAgents() {
        HelpDesk x = openDesk();
        x.setAgents(0, 3);
        for (int t = 0; t < 5; t++) {
            x.report(0, t, t, t == 0 ? 0 : 1);
        }
        x.pass(4);
        check.due(9, "busy", x.busyAgents(0), 3);
        check.due(9, "the low priority waits", x.stateOf(0), 0);
        int events = x.logSize();
        check.due(9, "previous", x.setAgents(0, 1), 3);
        check.due(9, "the highest number is put back", x.stateOf(3), 0);
        check.due(9, "the next one too", x.stateOf(2), 0);
        check.due(9, "the lowest stays", x.stateOf(1), 1);
        check.due(9, "the progress stays", x.progress(3), 4);
        check.due(9, "no events", x.logSize(), events);
        x.setAgents(0, 0);
        check.due(9, "none is left", x.busyAgents(0), 0);
        x.setAgents(0, 1);
        check.due(9, "none is taken before a minute passes", x.busyAgents(0), 0);
        x.pass(1);
        check.due(9, "taken on", x.progress(1), 5);
    }

    /** Only tickets of this level are put back, the very last one too. */
    private static void fewerAgentsAmongTheBusy() {
        HelpDesk x = openDesk();
        x.report(0, 1, 1, 0);
        x.report(0, 1, 1, 0);
        x.climb(1);
        x.pass(1);
        x.setAgents(0, 0);
        check.due(9, "of this level", x.stateOf(0), 0);
        check.due(9, "of another level", x.stateOf(1), 1);
        x.setAgents(1, 0);
        check.due(9, "the last ticket", x.stateOf(1), 0);
        for (int t = 2; t < 60; t++) {
            x.report(0, 1, 1, t == 59 ? 3 : 0);
        }
        x.setAgents(0, 1);
        x.pass(1);
        check.due(9, "the sixtieth ticket is in work", x.stateOf(59), 1);
        x.setAgents(0, 0);
        check.due(9, "the sixtieth ticket", x.stateOf(59), 0);
    }

    private static void fullHistory() {
        HelpDesk x = new HelpDesk();
        for (int i = 0; i < 200; i++) {
            x.setAgents(1, i % 10);
        }
        check.due(9, "a full history", x.setAgents(1, 3), HelpDesk.FULL);
        check.due(9, "range before full", x.setAgents(4, 3), HelpDesk.OUT_OF_RANGE);
        check.due(10, "agents", x.agents(1), 9);
    }

    private static HelpDesk openDesk() {
        HelpDesk x = new HelpDesk();
        x.addKind(1000, 1000, 100, 0, 0, true);
        x.setDay(0, 0, 1440);
        return x;
    }
}
