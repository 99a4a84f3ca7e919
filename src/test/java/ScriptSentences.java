import java.util.function.ToIntFunction;

/** The sentences on scripts, and the promises 53 to 58. */
final class ScriptSentences extends Group {
    private static final int WRONG_STATE = HelpDesk.WRONG_STATE;

    ScriptSentences(Sentences sentences) {
        super(sentences);
    }

    @Override
    void test() {
        s.under("SCRIPTS");
        buffer();
        tokens();
        statements();
        calls();
        errors();
        execution();
        appendText();
        truncateText();
        runScript();
        latest();
    }

    /** A text with an error, the first of which has this code and stands there. */
    private void wrong(String text, int code, int position) {
        HelpDesk x = new HelpDesk();
        s.due("runScript of " + text, Desks.run(x, text), HelpDesk.SYNTAX_ERROR);
        s.due("errorCode of " + text, x.errorCode(), code);
        s.due("errorPosition of " + text, x.errorPosition(), position);
        s.due("now, after " + text, x.now(), 0);
    }

    /** A text without an error that consists of so many statements "pass", "kind" and the like. */
    private HelpDesk sound(String text, int executed) {
        HelpDesk x = new HelpDesk();
        s.due("runScript of " + text, Desks.run(x, text), executed);
        s.due("errorCode of " + text, x.errorCode(), 0);
        s.due("errorPosition of " + text, x.errorPosition(), HelpDesk.NONE);
        return x;
    }

    private static String spaces(int number) {
        return " ".repeat(number);
    }

    private void buffer() {
        s.of("A script is an ASCII text that is collected in a text buffer of at most 400 bytes", () -> {
            HelpDesk x = new HelpDesk();
            Desks.append(x, spaces(393) + "pass 7;");
            s.due("400 bytes", Desks.textLength(x), 400);
            s.unchanged(x, "four more", d -> d.appendText(0x20202020), HelpDesk.FULL);
            s.due("the last byte is read", x.runScript(), 1);
            s.due("passed", x.now(), 7);
            wrong(spaces(399) + "!", 1, 399);
            wrong("\u0080", 1, 0);
            wrong("pass 1;\u00ff", 1, 7);
            wrong("\u0000", 1, 0);
        });
    }

    private void tokens() {
        s.of("Its tokens are words", () -> {
            for (char sign : "`{@[Z/:<,.-_\t\r\u0000\u007f\u0080\u00b3\u00e1\u00ff".toCharArray()) {
                wrong("pass 1" + sign + ";", 1, 6);
                wrong("pas" + sign + " 1;", 1, 0);
                wrong("pass" + sign + " 1;", 1, 4);
            }
            sound("pass1;", 1);
            sound("kind 1 1 1 1 1always;", 1);
            wrong("pas s 1;", 1, 0);
            wrong("passpass 1;", 1, 0);
            wrong("zpass 1;", 1, 0);
            wrong("passz 1;", 1, 0);
            wrong("tass 1;", 1, 0);
            wrong("pass 1z;", 1, 6);
            s.due("a run of digits is one number", sound("pass 109;", 1).now(), 109);
            wrong("pass 10 9;", 1, 8);
        });
        s.of("Spaces (byte 32) and line feeds (byte 10) may stand between tokens", () -> {
            s.due("many", sound("\n  pass \n\n 1  \n;\n pass\n2 ;  \n", 2).now(), 3);
            s.due("none", sound("pass1;pass2;", 2).now(), 3);
            sound(spaces(400), 0);
            wrong("pa\nss 1;", 1, 0);
            for (int sign = 0; sign < 256; sign++) {
                boolean space = sign == 10 || sign == 32;
                if (sign != ';' && (sign < '0' || sign > '9') && (sign < 'a' || sign > 'z')) {
                    s.due("byte " + sign, Desks.run(new HelpDesk(), "pass" + (char) sign + "1;"), space ? 1 : -7);
                }
            }
        });
    }

    private void statements() {
        s.of("A script consists of 0 to 40 statements, each followed by a semicolon", () -> {
            sound("", 0);
            sound("pass 1;", 1);
            String forty = "pass 1;".repeat(40);
            s.due("forty", sound(forty, 40).now(), 40);
            sound(forty + "\n ", 40);
            wrong(forty + "pass 1;", 3, 280);
            wrong("pass 1", 1, 6);
            wrong("pass 1;pass 1", 1, 13);
            wrong("pass 1 pass 1;", 1, 7);
            wrong(";", 1, 0);
            wrong("pass 1;;", 1, 7);
        });
        s.of("N is a number from 0 to 99999 with any number of digits", () -> {
            HelpDesk x = sound("pass 0;", 0);
            s.due("0 is a number", x.scriptFailure(), HelpDesk.OUT_OF_RANGE);
            x = sound("pass 99999;", 0);
            s.due("99999 is one", x.scriptFailure(), HelpDesk.OUT_OF_RANGE);
            wrong("pass 100000;", 2, 5);
            s.due("leading zeros", sound("pass " + "0".repeat(390) + "1234;", 1).now(), 1234);
            s.due("99999 with zeros", sound("pass 0000000000099999;", 0).scriptFailure(), HelpDesk.OUT_OF_RANGE);
            wrong("pass 00000000000100000;", 2, 5);
            wrong("pass " + "9".repeat(394) + ";", 2, 5);
            wrong("pass 2147483648;", 2, 5);
            wrong("pass 4294967296;", 2, 5);
            wrong("pass 4294967297;", 2, 5);
            wrong("pass 18446744073709551617;", 2, 5);
            wrong("pass -1;", 1, 5);
            wrong("pass +1;", 1, 5);
        });
        s.of("day N N N | kind N N N N N [always]", this::shapes);
    }

    /** Each statement wants just its numbers: with one less or one more it is wrong where the semicolon should be. */
    private void shapes() {
        String[] words = {"day", "kind", "agents", "report", "pause", "resume", "climb", "solve", "reopen", "join",
            "part", "priority", "pass"};
        int[] numbers = {3, 5, 2, 4, 1, 1, 1, 1, 1, 2, 1, 2, 1};
        for (int i = 0; i < words.length; i++) {
            String text = words[i] + " 7".repeat(numbers[i]);
            sound(text + ";", Desks.run(new HelpDesk(), text + ";"));
            wrong(text, 1, text.length());
            wrong(text + " 7;", 1, text.length() + 1);
            wrong(words[i] + " 7".repeat(numbers[i] - 1) + ";", 1, text.length() - 2);
            wrong(words[i] + " x" + text, 1, words[i].length() + 1);
            wrong(words[i].substring(0, words[i].length() - 1) + " 1;", 1, 0);
            wrong(words[i] + "s 1;", 1, 0);
            if (!words[i].equals("kind")) {
                wrong(text + " always;", 1, text.length() + 1);
            }
        }
        sound("kind 1 1 1 1 1 always;", 1);
        wrong("kind 1 1 1 1 always 1;", 1, 13);
        wrong("kind 1 1 1 1 1 always always;", 1, 22);
        wrong("kind 1 1 1 1 1 always 1;", 1, 22);
        wrong("kind 1 1 1 1 1 alway;", 1, 15);
        wrong("always;", 1, 0);
        wrong("setDay 1 1 1;", 1, 0);
    }

    private void calls() {
        s.of("They call setDay, addKind, setAgents", () -> {
            HelpDesk x = sound("kind 100 200 30 1 40;kind 1 2 480 3 4 always;day 6 1 1440;agents 2 9;", 4);
            s.due("no minutes pass", x.now(), 0);
            s.due("day", x.openingMinute(6) * 10000 + x.closingMinute(6), 11440);
            s.due("agents", x.agents(2), 9);
            s.due("no agents for now", Desks.run(x, "agents 0 0;report 0 98 997 3;report 1 1 1 1;pass 5;"), 4);
            s.due("customer", x.customerTickets(98), 1);
            s.due("priority", x.priorityOf(0), 3);
            s.due("no always", x.resolveClock(0), 0);
            s.due("always", x.resolveClock(1), 5);
            s.due("response target", x.logDetail(2), 1);
            s.due("resolve target", x.logDetail(3), 2);
            s.due("climb time", x.levelOf(1), 1);
            x = sound("kind 100 200 30 1 40;day 0 0 1440;report 0 1 1 1;report 0 1 1 1;pass 29;", 5);
            s.due("effort, a minute before", x.progress(0), 29);
            Desks.run(x, "pass 1;");
            s.due("effort, and the level that solves", x.levelOf(0), 1);
            x = sound("kind 100 200 30 1 40;report 0 1 1 1;kind 100 200 30 1 40 always;report 1 1 1 1;pass 39;", 5);
            s.due("climb time, a minute before", x.levelOf(1), 0);
            Desks.run(x, "pass 1;");
            s.due("climb time", x.levelOf(1), 1);
            HelpDesk y = Desks.calm(3);
            s.due("each with its arguments", Desks.run(y, "pause 2;climb 1;priority 0 3;join 0 1;pass 2;"), 5);
            s.due("pause", y.stateOf(2), Desks.PAUSED);
            s.due("climb", y.levelOf(1), 1);
            s.due("priority", y.priorityOf(0), 3);
            s.due("join", y.rootOf(0), 1);
            s.due("pass", y.now(), 2);
            s.due("and the others", Desks.run(y, "resume 2;part 0;solve 1;reopen 1;"), 4);
            s.due("resume", y.logType(y.logSize() - 4) * 10 + y.logTicket(y.logSize() - 4), 32);
            s.due("part", y.stateOf(0), Desks.QUEUED);
            s.due("solve", y.logType(y.logSize() - 2) * 10 + y.logTicket(y.logSize() - 2), 51);
            s.due("reopen", y.stateOf(1), Desks.QUEUED);
            s.due("all changes are recorded", y.historyLength(), 4 + 8);
            sameAsCalls();
        });
    }

    /** Each statement does and answers what its method does with the same numbers, of which each is in range or not. */
    private void sameAsCalls() {
        int[] few = {0, 1, 3, 4, 7};
        for (int a : new int[] {0, 1, 2, 3, 4, 5, 6, 7, 99999}) {
            same("pause " + a, x -> x.pause(a));
            same("resume " + a, x -> x.resume(a));
            same("climb " + a, x -> x.climb(a));
            same("solve " + a, x -> x.solve(a));
            same("reopen " + a, x -> x.reopen(a));
            same("part " + a, x -> x.part(a));
            int minutes = Math.min(1500 * a, 99999);
            same("pass " + minutes, x -> x.pass(minutes));
            for (int b : few) {
                same("agents " + a + " " + 2 * b, x -> x.setAgents(a, 2 * b));
                same("join " + a + " " + b, x -> x.join(a, b));
                same("priority " + a + " " + b, x -> x.setPriority(a, b));
                for (int c : few) {
                    same("day " + a + " " + 400 * b + " " + 401 * c, x -> x.setDay(a, 400 * b, 401 * c));
                }
            }
        }
        for (int i = 0; i < 16; i++) {
            int kind = i % 4 == 0 ? 1 : 0;
            int customer = 25 * (i % 5);
            int subject = 1000 - i % 7;
            int priority = i % 5;
            same("report " + kind + " " + customer + " " + subject + " " + priority,
                    x -> x.report(kind, customer, subject, priority));
        }
        for (int odd = 0; odd < 6; odd++) {
            int response = odd == 1 ? 10081 : 11;
            int resolve = odd == 2 ? 10081 : 22;
            int effort = odd == 3 ? 481 : 33;
            int level = odd == 4 ? 4 : 2;
            int climb = odd == 5 ? 10081 : 44;
            String kind = "kind " + response + " " + resolve + " " + effort + " " + level + " " + climb;
            same(kind, x -> x.addKind(response, resolve, effort, level, climb, false));
            same(kind + " always", x -> x.addKind(response, resolve, effort, level, climb, true));
        }
    }

    private void same(String statement, ToIntFunction<HelpDesk> call) {
        HelpDesk x = Desks.ofEveryState();
        HelpDesk y = Desks.ofEveryState();
        int answer = call.applyAsInt(y);
        s.due(statement, Desks.run(x, statement + ";"), answer < HelpDesk.NONE ? 0 : 1);
        s.due("failure of " + statement, x.scriptFailure(), answer < HelpDesk.NONE ? answer : 0);
        x.runScript();
        for (HelpDesk d : new HelpDesk[] {x, y}) {
            d.report(1, 1, 1, 1);
            d.report(1, 1, 1, 1);
            d.pass(100);
        }
        s.due(statement + " does what the call does", Desks.picture(x).equals(Desks.picture(y)), true);
    }

    private void errors() {
        s.of("Errors in a text: the parser reads the tokens from the first one on", () -> {
            wrong("pass x;pass 100000;!", 1, 5);
            wrong("pass 100000;pass x;!", 2, 5);
            wrong("!pass 100000;pass x;", 1, 0);
            wrong("pass 1;pass ;pass 100000;", 1, 12);
        });
        s.of("The error position is the index of its first byte, or the length of the text", () -> {
            wrong("pass 1; nothing", 1, 8);
            wrong("   123", 1, 3);
            wrong("pass 1; pass 100000;", 2, 13);
            for (String text : new String[] {"pass", "pass ", "pass 1", "pass 1 \n", "day 1 1",
                "kind 1 1 1 1 1 always"}) {
                wrong(text, 1, text.length());
            }
            wrong("pass" + spaces(396), 1, 400);
            for (String text : new String[] {"pass 123;", "pass    ;", "passpass;"}) {
                HelpDesk x = new HelpDesk();
                Desks.append(x, text);
                x.truncateText(4);
                s.due("what was cut off", x.runScript(), HelpDesk.SYNTAX_ERROR);
                s.due("is not read", x.errorPosition(), 4);
            }
            String cut = "kind 1 1 1 1 1 always;";
            for (int length : new int[] {1, 3, 16, 20}) {
                HelpDesk x = new HelpDesk();
                Desks.append(x, cut);
                x.truncateText(length);
                s.due("letters that were cut off", x.runScript(), HelpDesk.SYNTAX_ERROR);
                s.due("are not read, " + length, x.errorPosition(), length < 4 ? 0 : 15);
            }
            HelpDesk y = new HelpDesk();
            Desks.append(y, "pass 123;");
            y.truncateText(6);
            y.runScript();
            s.due("digits that were cut off", y.errorPosition(), 6);
            wrong("pass" + "x".repeat(396), 1, 0);
            wrong("pass" + "1".repeat(396), 2, 4);
            wrong(spaces(396) + "pass", 1, 400);
            wrong(spaces(394) + "pass 1", 1, 400);
        });
        s.of("The error code is 1 if the token is not allowed there", () -> {
            wrong("1;", 1, 0);
            wrong("100000;", 1, 0);
            wrong("pass 1 100000;", 1, 7);
            wrong("pass pass;", 1, 5);
            wrong("pass ;", 1, 5);
            wrong("pass ?;", 1, 5);
            wrong("pass 99999 1;", 1, 11);
            wrong("pass 100000;", 2, 5);
            wrong("day 1 100000", 2, 6);
            wrong("kind 1 1 1 1 100000 always;", 2, 13);
            String forty = "pass 1;".repeat(40);
            for (String word : new String[] {"day", "kind", "agents", "report", "pause", "resume", "climb", "solve",
                "reopen", "join", "part", "priority", "pass"}) {
                wrong(forty + word, 3, 280);
                wrong(forty + " " + word + " 100000;", 3, 281);
            }
            for (String other : new String[] {"always", "word", "1", "100000", ";", "!", "passs"}) {
                wrong(forty + other, 1, 280);
            }
            wrong("pass 1;".repeat(39) + "pass x;pass 1;", 1, 278);
            wrong("pass 1;".repeat(39) + "pass 100000;pass 1;", 2, 278);
        });
    }

    private void execution() {
        s.of("If the text has an error, no statement is executed", () -> {
            HelpDesk x = Desks.calm(1);
            String text = "pass 1;pause 0;kind 1 1 1 1 1;pass 1";
            s.unchanged(x, "but for the error", d -> {
                int answer = Desks.run(d, text);
                s.due("code", d.errorCode(), 1);
                s.due("position", d.errorPosition(), text.length());
                d.runScript();
                return answer;
            }, HelpDesk.SYNTAX_ERROR);
        });
        s.of("Otherwise the statements are executed in order", () -> {
            HelpDesk x = Desks.calm(2);
            s.due("four", Desks.run(x, "pause 1;pause 0;pass 3;resume 0;"), 4);
            int[] types = {2, 2, 3};
            int[] tickets = {1, 0, 0};
            for (int i = 0; i < types.length; i++) {
                s.due("type " + i, x.logType(2 + i), types[i]);
                s.due("ticket " + i, x.logTicket(2 + i), tickets[i]);
                s.due("time " + i, x.logTime(2 + i), i < 2 ? 0 : 3);
            }
        });
        s.of("Execution stops at the first statement whose method returns an error", () -> {
            HelpDesk x = Desks.calm(1);
            s.due("the third", Desks.run(x, "pass 1;pass 1;part 0;pass 1;"), 2);
            s.due("no further one", x.now(), 2);
            s.due("the first", Desks.run(x, "pause 1;pass 1;"), 0);
            s.due("no further one", x.now(), 2);
            s.due("0 is no error", Desks.run(x, "day 0 0 0;pass 1;"), 2);
            Desks.fillHistory(x);
            s.due("a full history", Desks.run(x, "pass 1;day 0 0 0;pass 1;"), 1);
        });
    }

    private void appendText() {
        s.under("Promise 53: appendText");
        s.of("Appends four bytes to the text buffer, the highest byte", () -> {
            HelpDesk x = new HelpDesk();
            x.appendText(0x70617373);
            x.appendText(0x20313b3b);
            x.runScript();
            s.due("the lowest byte last", x.errorPosition(), 7);
            x.appendText(0x80707373);
            x.runScript();
            s.due("a highest byte of 128", x.errorPosition(), 0);
        });
        s.of("- `fourBytes`: the bytes", () -> {
            for (int bytes : new int[] {0, -1, Integer.MIN_VALUE, Integer.MAX_VALUE}) {
                HelpDesk x = new HelpDesk();
                s.due("any bytes", x.appendText(bytes), 4);
                s.due("are four", Desks.textLength(x), 4);
                s.due("but no script", x.runScript(), HelpDesk.SYNTAX_ERROR);
                s.due("from the first on", x.errorPosition(), 0);
            }
        });
        s.of("Returns the length of the text in bytes", () -> {
            HelpDesk x = new HelpDesk();
            for (int length = 4; length <= 400; length += 4) {
                s.due("length", x.appendText(0x20202020), length);
            }
            x.truncateText(1);
            s.due("behind what is left", x.appendText(0x20202020), 5);
            x.runScript();
            s.due("after a run", x.appendText(0x20202020), 4);
        });
        s.of("FULL if the text would be longer than 400 bytes", () -> {
            for (int length = 396; length <= 400; length++) {
                HelpDesk x = new HelpDesk();
                Desks.append(x, spaces(400));
                x.truncateText(length);
                if (length == 396) {
                    s.due("just 400", x.appendText(0x20202020), 400);
                } else {
                    s.unchanged(x, "more than 400", d -> d.appendText(0x20202020), HelpDesk.FULL);
                }
            }
        });
    }

    private void truncateText() {
        s.under("Promise 54: truncateText");
        s.of("Cuts the text to its first bytes", () -> {
            HelpDesk x = new HelpDesk();
            Desks.append(x, "pass 1;pass 20;pass 300;");
            s.due("two statements", x.truncateText(15), 15);
            s.due("the first two", x.runScript(), 2);
            s.due("passed", x.now(), 21);
        });
        s.of("- `length`: the new length, 0 to the present length", () -> {
            HelpDesk x = new HelpDesk();
            s.due("0 of an empty text", x.truncateText(0), 0);
            s.unchanged(x, "1 of an empty text", d -> d.truncateText(1), HelpDesk.OUT_OF_RANGE);
            Desks.append(x, "pass 12");
            s.unchanged(x, "its length", d -> d.truncateText(7), 7);
            s.unchanged(x, "one more", d -> d.truncateText(8), HelpDesk.OUT_OF_RANGE);
            s.due("one less", x.truncateText(6), 6);
            s.due("0", x.truncateText(0), 0);
            s.due("nothing is left", x.runScript(), 0);
        });
        s.of("Returns the new length", () -> {
            HelpDesk x = new HelpDesk();
            Desks.append(x, spaces(400));
            for (int length = 400; length >= 0; length -= 25) {
                s.due("length", x.truncateText(length), length);
            }
        });
        s.of("OUT_OF_RANGE", () -> {
            HelpDesk x = new HelpDesk();
            Desks.append(x, "pass 12");
            for (int length : new int[] {-1, 8, 400, 401, Integer.MIN_VALUE, Integer.MAX_VALUE}) {
                s.unchanged(x, "truncateText " + length, d -> d.truncateText(length), HelpDesk.OUT_OF_RANGE);
            }
        });
    }

    private void runScript() {
        s.under("Promise 55: runScript");
        s.of("Executes the text as a script", () -> {
            HelpDesk x = new HelpDesk();
            s.due("an empty text", x.runScript(), 0);
            s.due("a statement", Desks.run(x, "pass 10080;"), 1);
            s.due("passed", x.now(), 10080);
        });
        s.of("The text buffer is empty afterwards, also if", () -> {
            for (String text : new String[] {"pass 1;", "pass 1", "pause 0;", "", spaces(400), "!".repeat(400)}) {
                HelpDesk x = new HelpDesk();
                Desks.run(x, text);
                s.due("after " + text, x.truncateText(1), HelpDesk.OUT_OF_RANGE);
                s.due("nothing to run", x.runScript(), 0);
                s.due("room for all", Desks.append(x, spaces(400)), 400);
            }
        });
        s.of("Returns the number of statements that were executed without an error", () -> {
            s.due("none", Desks.run(new HelpDesk(), ""), 0);
            s.due("none but a wrong one", Desks.run(new HelpDesk(), "pause 0;"), 0);
            s.due("one, then a wrong one", Desks.run(new HelpDesk(), "pass 1;pause 0;pass 1;"), 1);
            s.due("forty", Desks.run(new HelpDesk(), "pass 1;".repeat(40)), 40);
            s.due("39, then a wrong one", Desks.run(new HelpDesk(), "pass 1;".repeat(39) + "part 0;"), 39);
        });
        s.of("SYNTAX_ERROR", () -> {
            s.due("an error at the end", Desks.run(new HelpDesk(), "pass 1;".repeat(40) + "!"), HelpDesk.SYNTAX_ERROR);
            s.due("an error behind a failure", Desks.run(new HelpDesk(), "pause 0;x"), HelpDesk.SYNTAX_ERROR);
        });
    }

    /** What is told of a run stays the same, whatever else is called before the next one. */
    private void untilTheNextRun(String text, Call told, int due) {
        HelpDesk x = Desks.ofEveryState();
        Desks.run(x, text);
        Call[] calls = {(d, n) -> d.appendText(0x70617373), (d, n) -> d.truncateText(1), (d, n) -> d.truncateText(2),
            (d, n) -> Desks.append(d, spaces(399)), (d, n) -> d.appendText(0x20202020), (d, n) -> d.truncateText(0),
            (d, n) -> d.save(0) ? 1 : 0, (d, n) -> d.restore(0) ? 1 : 0, (d, n) -> d.restore(1) ? 1 : 0,
            (d, n) -> d.addKind(1, 1, 1, 1, 1, true), (d, n) -> d.report(1, 1, 1, 1), (d, n) -> d.pause(9),
            (d, n) -> d.setAgents(0, 2), (d, n) -> d.pass(10), (d, n) -> d.pass(0), (d, n) -> d.solve(1),
            (d, n) -> d.breachesWith(0, 1), (d, n) -> d.forecast(0), (d, n) -> d.resolvePercentile(0)};
        for (int i = 0; i < calls.length; i++) {
            calls[i].of(x, 0);
            s.due("after call " + i + " behind " + text, told.of(x, 0), due);
        }
        Desks.run(x, "pass 1;");
        s.due("until the next run", told.of(x, 0) != due, true);
    }

    private void latest() {
        s.under("Promise 56: errorCode");
        s.of("Returns the error code of the latest runScript(): 0 if", () -> {
            HelpDesk x = new HelpDesk();
            s.due("no such call", x.errorCode(), 0);
            String[] texts = {"!", "pass 1;", "pass 100000;", "pause 0;", "pass 1;".repeat(40) + "pass", ""};
            int[] due = {1, 0, 2, 0, 3, 0};
            for (int i = 0; i < texts.length; i++) {
                Desks.append(x, texts[i]);
                s.due("until the next run", x.errorCode(), i == 0 ? 0 : due[i - 1]);
                x.runScript();
                s.due("after " + texts[i], x.errorCode(), due[i]);
            }
            untilTheNextRun("pass 100000;", (d, none) -> d.errorCode(), 2);
        });
        s.under("Promise 57: errorPosition");
        s.of("Returns the error position of the latest runScript()", () -> {
            HelpDesk x = new HelpDesk();
            for (String text : new String[] {"pass 1;!", "!", "pass 1"}) {
                Desks.run(x, text);
                s.due("after " + text, x.errorPosition(), text.equals("!") ? 0 : text.equals("pass 1") ? 6 : 7);
            }
            untilTheNextRun("pass 100000;", (d, none) -> d.errorPosition(), 5);
        });
        s.of("NONE if its text had no error, or if there was no such call", () -> {
            HelpDesk x = new HelpDesk();
            s.due("no such call", x.errorPosition(), HelpDesk.NONE);
            Desks.run(x, "!");
            Desks.run(x, "pass 1;");
            s.due("no error", x.errorPosition(), HelpDesk.NONE);
            Desks.run(x, "!");
            Desks.run(x, "pause 0;");
            s.due("no error in the text", x.errorPosition(), HelpDesk.NONE);
            Desks.run(x, "!");
            x.runScript();
            s.due("an empty text", x.errorPosition(), HelpDesk.NONE);
        });
        s.under("Promise 58: scriptFailure");
        s.of("Returns the error that stopped the latest runScript()", () -> {
            HelpDesk x = Desks.calm(1);
            String[] texts = {"pause 1;", "report 1 1 1 1;", "pass 0;", "resume 0;"};
            int[] due = {-2, -3, -4, -5};
            for (int i = 0; i < texts.length; i++) {
                Desks.run(x, texts[i]);
                s.due("after " + texts[i], x.scriptFailure(), due[i]);
            }
            Desks.fillHistory(x);
            Desks.run(x, "pause 0;");
            s.due("full", x.scriptFailure(), HelpDesk.FULL);
            untilTheNextRun("resume 1;", (d, none) -> d.scriptFailure(), WRONG_STATE);
        });
        s.of("0 if that call executed all statements, had a syntax error, or did not happen", () -> {
            HelpDesk x = new HelpDesk();
            s.due("did not happen", x.scriptFailure(), 0);
            for (String text : new String[] {"pass 1;", "!", ""}) {
                Desks.run(x, "pause 0;");
                s.due("before", x.scriptFailure(), HelpDesk.NO_SUCH_TICKET);
                Desks.run(x, text);
                s.due("after " + text, x.scriptFailure(), 0);
            }
        });
    }
}
