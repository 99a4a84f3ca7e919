import java.util.ArrayList;
import java.util.List;
import java.util.Map;
import java.util.regex.Matcher;
import java.util.regex.Pattern;

/** Scripts told once more: all tokens are cut first, then read against the statements' shapes. */
final class ReferenceScript {
    private static final Map<String, Integer> NUMBERS = Map.ofEntries(Map.entry("day", 3), Map.entry("kind", 5),
            Map.entry("agents", 2), Map.entry("report", 4), Map.entry("pause", 1), Map.entry("resume", 1),
            Map.entry("climb", 1), Map.entry("solve", 1), Map.entry("reopen", 1), Map.entry("join", 2),
            Map.entry("part", 1), Map.entry("priority", 2), Map.entry("pass", 1));
    private static final Map<String, String> METHODS = Map.of("day", "setDay", "agents", "setAgents",
            "priority", "setPriority");
    private static final Pattern TOKEN = Pattern.compile("([a-z]+)|([0-9]+)|(;)|([ \n]+)|(.)", Pattern.DOTALL);

    private record Token(String text, int at) { }

    private record Statement(String verb, int[] numbers, boolean always) { }

    StringBuilder text = new StringBuilder();
    int errorCode;
    int errorPosition = -1;
    int failure;

    int append(int fourBytes) {
        if (text.length() + 4 > 400) {
            return -6;
        }
        for (int i = 3; i >= 0; i--) {
            text.append((char) (fourBytes >>> 8 * i & 255));
        }
        return text.length();
    }

    int truncate(int length) {
        if (length < 0 || length > text.length()) {
            return -4;
        }
        text.setLength(length);
        return length;
    }

    int run(ReferenceDesk desk) {
        String script = text.toString();
        text.setLength(0);
        errorCode = 0;
        errorPosition = -1;
        failure = 0;
        List<Statement> statements = parse(script);
        if (statements == null) {
            return -7;
        }
        int done = 0;
        for (Statement s : statements) {
            int answer = execute(s, desk);
            if (answer < -1) {
                failure = answer;
                break;
            }
            done++;
        }
        return done;
    }

    private int execute(Statement s, ReferenceDesk desk) {
        int[] n = s.numbers;
        if (s.verb.equals("pass")) {
            return desk.pass(n[0]);
        }
        if (s.verb.equals("kind")) {
            return desk.addKind(n[0], n[1], n[2], n[3], n[4], s.always);
        }
        return desk.change(METHODS.getOrDefault(s.verb, s.verb), n);
    }

    private List<Statement> parse(String script) {
        List<Token> tokens = new ArrayList<>();
        Matcher m = TOKEN.matcher(script);
        while (m.find()) {
            if (m.group(4) == null) {
                tokens.add(new Token(m.group(), m.start()));
            }
        }
        tokens.add(new Token("", script.length()));
        List<Statement> statements = new ArrayList<>();
        int i = 0;
        while (i < tokens.size() - 1) {
            String verb = tokens.get(i).text;
            if (!NUMBERS.containsKey(verb)) {
                return wrong(1, tokens.get(i));
            }
            if (statements.size() == 40) {
                return wrong(3, tokens.get(i));
            }
            i++;
            int[] numbers = new int[NUMBERS.get(verb)];
            for (int k = 0; k < numbers.length; k++, i++) {
                String digits = tokens.get(i).text;
                if (!digits.matches("[0-9]+")) {
                    return wrong(1, tokens.get(i));
                }
                if (new java.math.BigInteger(digits).compareTo(java.math.BigInteger.valueOf(99999)) > 0) {
                    return wrong(2, tokens.get(i));
                }
                numbers[k] = Integer.parseInt(digits);
            }
            boolean always = verb.equals("kind") && tokens.get(i).text.equals("always");
            if (always) {
                i++;
            }
            if (!tokens.get(i).text.equals(";")) {
                return wrong(1, tokens.get(i));
            }
            i++;
            statements.add(new Statement(verb, numbers, always));
        }
        return statements;
    }

    private List<Statement> wrong(int code, Token token) {
        errorCode = code;
        errorPosition = token.at;
        return null;
    }
}
