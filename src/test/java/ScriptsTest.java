/** Promises 53 to 58: scripts. */
public final class ScriptsTest {
    private static final Check check = new Check();

    public static void main(String[] args) {
        appendText();
        truncateText();
        everyStatement();
        kindsThatRunAlways();
        numbersOfAKind();
        layout();
        failures();
        syntaxErrors();
        endsOfTexts();
        greatNumbers();
        fortyStatements();
        nothingIsExecutedOnAnError();
        latestRun();
        everyByte();
        check.finish();
    }

    private static int run(HelpDesk x, String text) {
        return Desks.run(x, text);
    }

    private static void appendText() {
        HelpDesk x = new HelpDesk();
        for (int length = 4; length <= 396; length += 4) {
            check.due(53, "length", x.appendText(0x20202020), length);
        }
        check.due(54, "cut", x.truncateText(394), 394);
        check.due(53, "to 398", x.appendText(0x20202020), 398);
        check.due(53, "402 would be too long", x.appendText(0x20202020), HelpDesk.FULL);
        x.truncateText(397);
        check.due(53, "401 would be too long", x.appendText(0x20202020), HelpDesk.FULL);
        x.truncateText(396);
        check.due(53, "400", x.appendText(0x2020203b), 400);
        check.due(53, "full", x.appendText(0x20202020), HelpDesk.FULL);
        check.due(55, "the last byte", x.runScript(), HelpDesk.SYNTAX_ERROR);
        check.due(57, "the last byte", x.errorPosition(), 399);
        check.due(53, "empty again", x.appendText(0x7061FF73), 4);
        x.runScript();
        check.due(57, "a word before an odd byte", x.errorPosition(), 0);
        x.appendText(0x64617920);
        x.appendText(0x312032FF);
        x.runScript();
        check.due(57, "the lowest byte last", x.errorPosition(), 7);
    }

    private static void truncateText() {
        HelpDesk x = new HelpDesk();
        x.appendText(0x70617373);
        x.appendText(0x20373b3b);
        for (int length : new int[] {9, -1, Integer.MIN_VALUE, Integer.MAX_VALUE}) {
            check.due(54, "truncateText " + length, x.truncateText(length), HelpDesk.OUT_OF_RANGE);
        }
        check.due(54, "to its length", x.truncateText(8), 8);
        check.due(54, "to 7", x.truncateText(7), 7);
        check.due(54, "no more than that", x.truncateText(8), HelpDesk.OUT_OF_RANGE);
        check.due(55, "what is left", x.runScript(), 1);
        check.due(21, "passed", x.now(), 7);
        check.due(54, "empty afterwards", x.truncateText(1), HelpDesk.OUT_OF_RANGE);
        check.due(54, "to 0", x.truncateText(0), 0);
    }

    private static void everyStatement() {
        HelpDesk x = new HelpDesk();
        check.due(55, "all statements", run(x, "kind 10 60 20 1 0; day 0 1 1440; agents 1 2; report 0 7 5 1;"
                + "report 0 8 5 2; report 0 9 5 3; pass 4; pause 0; resume 0; climb 0; join 1 0; part 1;"
                + "solve 2; reopen 2; priority 0 3;"), 15);
        check.due(8, "kinds", x.kindCount(), 1);
        check.due(3, "day", x.openingMinute(0), 1);
        check.due(10, "agents", x.agents(1), 2);
        check.due(22, "tickets", x.ticketCount(), 3);
        check.due(39, "customer", x.customerTickets(8), 2);
        check.due(38, "kind and subject", x.suggestRoot(1), 0);
        check.due(26, "priority", x.priorityOf(1), 2);
        check.due(4, "day", x.closingMinute(0), 1440);
        check.due(21, "pass", x.now(), 4);
        check.due(25, "climb", x.levelOf(0), 1);
        check.due(26, "priority", x.priorityOf(0), 3);
        check.due(47, "history", x.historyLength(), 13);
        int[] types = {0, 0, 0, 1, 2, 3, 4, 6, 7, 5, 10};
        check.due(48, "log", x.logSize(), types.length);
        for (int i = 0; i < types.length; i++) {
            check.due(50, "event " + i, x.logType(i), types[i]);
        }
        check.due(56, "errorCode", x.errorCode(), 0);
        check.due(57, "errorPosition", x.errorPosition(), HelpDesk.NONE);
        check.due(58, "scriptFailure", x.scriptFailure(), 0);
        check.due(55, "replayed too", x.breachesWith(0, 1), 0);
    }

    private static void kindsThatRunAlways() {
        HelpDesk x = new HelpDesk();
        check.due(55, "with and without", run(x, "kind 1 2 3 0 4 always;kind 1 2 3 0 4;report 0 1 1 1;report 1 1 1 1;"
                + "pass 3;"), 5);
        check.due(34, "always", x.resolveClock(0), 3);
        check.due(34, "when open", x.resolveClock(1), 0);
        wrong(x, "kind 1 2 3 0 4 always always;", 1, 22);
        wrong(x, "kind 1 2 3 0 always;", 1, 13);
        wrong(x, "pass 3 always;", 1, 7);
        wrong(x, "always;", 1, 0);
        wrong(x, "kind 1 2 3 0 4 alway;", 1, 15);
        wrong(x, "kind 1 2 3 0 4 alwayss;", 1, 15);
    }

    /** The five numbers of a kind come in their order. */
    private static void numbersOfAKind() {
        HelpDesk x = new HelpDesk();
        check.due(55, "a kind", run(x, "kind 2 4 6 1 3;day 0 0 1440;report 0 1 1 1;report 0 1 1 1;pass 3;"), 5);
        check.due(52, "the response target", x.logDetail(3), 2);
        check.due(25, "the climb time", x.levelOf(1), 1);
        run(x, "pass 2;");
        check.due(50, "resolve breach", x.logType(x.logSize() - 1), 9);
        check.due(52, "the resolve target", x.logDetail(x.logSize() - 1), 4);
        run(x, "pass 1;");
        check.due(25, "the effort, and the level that solves", x.levelOf(0), 1);
        run(x, "pass 10000; climb 0;");
        check.due(23, "solved", x.stateOf(0), 3);
        HelpDesk y = new HelpDesk();
        run(y, "kind 100 200 7 0 0;day 0 0 1440;report 0 1 1 1;pass 30;");
        check.due(32, "the effort alone", y.solvedAt(0), 7);
    }

    private static void layout() {
        HelpDesk x = new HelpDesk();
        check.due(55, "an empty text", x.runScript(), 0);
        check.due(55, "spaces alone", run(x, "  \n \n"), 0);
        check.due(55, "none needed", run(x, "pass1;pass\n\n2 ;\n"), 2);
        check.due(21, "now", x.now(), 3);
        check.due(55, "leading zeros", run(x, "pass 00000000000000000000000000000000000000000000000000004;"), 1);
        check.due(21, "now", x.now(), 7);
        check.due(55, "a word behind a number", run(x, "kind 1 2 3 0 4always;"), 1);
    }

    private static void failures() {
        HelpDesk x = new HelpDesk();
        check.due(55, "the second fails", run(x, "pass 5; pause 0; pass 5;"), 1);
        check.due(58, "its error", x.scriptFailure(), HelpDesk.NO_SUCH_TICKET);
        check.due(56, "no syntax error", x.errorCode(), 0);
        check.due(57, "no syntax error", x.errorPosition(), HelpDesk.NONE);
        check.due(21, "the third is not executed", x.now(), 5);
        check.due(55, "pass 0", run(x, "pass 0;"), 0);
        check.due(58, "its error", x.scriptFailure(), HelpDesk.OUT_OF_RANGE);
        check.due(55, "no kind", run(x, "report 0 1 1 1;"), 0);
        check.due(58, "its error", x.scriptFailure(), HelpDesk.NO_SUCH_KIND);
        check.due(55, "wrong state", run(x, "kind 1 2 3 0 4;report 0 1 1 1; resume 0;"), 2);
        check.due(58, "its error", x.scriptFailure(), HelpDesk.WRONG_STATE);
        check.due(55, "a great number is no syntax error", run(x, "kind 99999 1 1 1 1;"), 0);
        check.due(58, "its error", x.scriptFailure(), HelpDesk.OUT_OF_RANGE);
        run(x, "kind 1 2 3 0 4;kind 1 2 3 0 4;kind 1 2 3 0 4;kind 1 2 3 0 4;kind 1 2 3 0 4;");
        check.due(55, "full", run(x, "kind 1 2 3 0 4;"), 0);
        check.due(58, "its error", x.scriptFailure(), HelpDesk.FULL);
        check.due(55, "then none", run(x, "pass 1;"), 1);
        check.due(58, "no failure", x.scriptFailure(), 0);
    }

    private static void wrong(HelpDesk x, String text, int code, int position) {
        check.due(55, "runScript of " + text, run(x, text), HelpDesk.SYNTAX_ERROR);
        check.due(56, "errorCode of " + text, x.errorCode(), code);
        check.due(57, "errorPosition of " + text, x.errorPosition(), position);
        check.due(58, "scriptFailure of " + text, x.scriptFailure(), 0);
        check.due(54, "text after " + text, x.truncateText(1), HelpDesk.OUT_OF_RANGE);
    }

    private static void syntaxErrors() {
        HelpDesk x = new HelpDesk();
        wrong(x, "pass 14 ", 1, 8);
        wrong(x, "pass", 1, 4);
        wrong(x, "pass 14", 1, 7);
        wrong(x, "kind 1 2 3 0 4 always", 1, 21);
        wrong(x, ";", 1, 0);
        wrong(x, "pass 1;;", 1, 7);
        wrong(x, "pass;", 1, 4);
        wrong(x, "pass 1 2;", 1, 7);
        wrong(x, "join 1;", 1, 6);
        wrong(x, "join 1 x;", 1, 7);
        wrong(x, "  passes 1;", 1, 2);
        wrong(x, "pas 1;", 1, 0);
        wrong(x, "tass 1;", 1, 0);
        wrong(x, "passz 1;", 1, 0);
        wrong(x, "passa 1;", 1, 0);
        wrong(x, "pass` 1;", 1, 4);
        wrong(x, "pass{ 1;", 1, 4);
        wrong(x, "7 pass;", 1, 0);
        wrong(x, "Pass 1;", 1, 0);
        wrong(x, "pAss 1;", 1, 0);
        wrong(x, "pass 1; pass pass;", 1, 13);
        wrong(x, "pass 1\t;", 1, 6);
        wrong(x, "pass -1;", 1, 5);
        wrong(x, "pass 1.5;", 1, 6);
        wrong(x, "pass 1;\r\n", 1, 7);
        wrong(x, "setagents 1 1;", 1, 0);
        check.due(21, "nothing was executed", x.now(), 0);
    }

    /** What was cut off, or lies behind the whole buffer, is not read. */
    private static void endsOfTexts() {
        for (String text : new String[] {"pass 123", "pass    ", "passpass"}) {
            HelpDesk x = new HelpDesk();
            Desks.append(x, text);
            x.truncateText(6);
            check.due(55, "cut: " + text, x.runScript(), HelpDesk.SYNTAX_ERROR);
            check.due(57, "cut: " + text, x.errorPosition(), text.equals("passpass") ? 0 : 6);
        }
        String pad = " ".repeat(392);
        for (String end : new String[] {"pass   7", "pass    ", "passpass", "pass 11;", "pass  1\n", "pass  1!"}) {
            HelpDesk x = new HelpDesk();
            int answer = run(x, pad + end);
            boolean sound = end.equals("pass 11;");
            check.due(55, "400 bytes, " + end, answer, sound ? 1 : HelpDesk.SYNTAX_ERROR);
            check.due(57, "400 bytes, " + end, x.errorPosition(), sound ? HelpDesk.NONE
                    : end.equals("passpass") ? 392 : end.endsWith("!") ? 399 : 400);
        }
        HelpDesk x = new HelpDesk();
        check.due(55, "400 digits", run(x, "1".repeat(400)), HelpDesk.SYNTAX_ERROR);
        check.due(56, "400 digits", x.errorCode(), 1);
        check.due(55, "395 digits", run(x, "pass " + "1".repeat(395)), HelpDesk.SYNTAX_ERROR);
        check.due(56, "395 digits", x.errorCode(), 2);
        check.due(55, "394 digits", run(x, "pass " + "0".repeat(393) + "1;"), 1);
        check.due(21, "394 digits", x.now(), 1);
    }

    private static void greatNumbers() {
        HelpDesk x = new HelpDesk();
        wrong(x, "pass 100000;", 2, 5);
        wrong(x, "pass 0100000;", 2, 5);
        wrong(x, "pass 99999999999999999999999999999999999999999999999999999;", 2, 5);
        wrong(x, "pass 4294967297;", 2, 5);
        wrong(x, "day 1 100000", 2, 6);
        wrong(x, "pass 1 100000;", 1, 7);
        wrong(x, "100000;", 1, 0);
        wrong(x, "pass 100000 x", 2, 5);
        check.due(55, "99999 is allowed", run(x, "pass 99999;"), 0);
        check.due(58, "though out of range", x.scriptFailure(), HelpDesk.OUT_OF_RANGE);
    }

    private static void fortyStatements() {
        HelpDesk x = new HelpDesk();
        String forty = "pass 1;".repeat(40);
        check.due(55, "forty", run(x, forty + "  "), 40);
        check.due(21, "now", x.now(), 40);
        wrong(x, forty + " solve", 3, 281);
        wrong(x, forty + "kind", 3, 280);
        wrong(x, forty + "always", 1, 280);
        wrong(x, forty + "solv", 1, 280);
        wrong(x, forty + "7", 1, 280);
        wrong(x, forty + ";", 1, 280);
        wrong(x, forty + "!", 1, 280);
        wrong(x, forty + "pass x", 3, 280);
        check.due(21, "now", x.now(), 40);
    }

    private static void nothingIsExecutedOnAnError() {
        HelpDesk x = new HelpDesk();
        wrong(x, "kind 1 2 3 0 4; pass 1; pass 1", 1, 30);
        check.due(55, "no kind", x.kindCount(), 0);
        check.due(55, "no time", x.now(), 0);
    }

    private static void latestRun() {
        HelpDesk x = new HelpDesk();
        check.due(56, "no run", x.errorCode(), 0);
        check.due(57, "no run", x.errorPosition(), HelpDesk.NONE);
        check.due(58, "no run", x.scriptFailure(), 0);
        run(x, "pause 0;");
        check.due(58, "failure", x.scriptFailure(), HelpDesk.NO_SUCH_TICKET);
        wrong(x, "pass 100000", 2, 5);
        Desks.append(x, "pass 1");
        check.due(56, "until the next run", x.errorCode(), 2);
        check.due(57, "until the next run", x.errorPosition(), 5);
        Desks.append(x, ";");
        check.due(55, "sound", x.runScript(), 1);
        check.due(56, "sound", x.errorCode(), 0);
        check.due(57, "sound", x.errorPosition(), HelpDesk.NONE);
    }

    /** Each byte is what the document says it is: a letter, a digit, a semicolon, a space, or of no token. */
    private static void everyByte() {
        for (int sign = 0; sign < 256; sign++) {
            HelpDesk x = new HelpDesk();
            x.appendText(0x70617373);
            x.appendText(0x20303000 | sign);
            x.appendText(0x373b2020);
            int answer = x.runScript();
            boolean space = sign == 32 || sign == 10;
            if (sign >= '0' && sign <= '9') {
                check.due(55, "digit " + sign, answer, 1);
                check.due(21, "digit " + sign, x.now(), 10 * (sign - '0') + 7);
            } else {
                check.due(55, "byte " + sign, answer, HelpDesk.SYNTAX_ERROR);
                check.due(57, "byte " + sign, x.errorPosition(), space || sign == ';' ? 8 : 7);
            }
        }
    }
}
