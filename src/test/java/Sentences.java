import java.io.IOException;
import java.nio.file.Files;
import java.nio.file.Path;
import java.util.ArrayList;
import java.util.List;
import java.util.function.ToLongFunction;

/**
 * The sentences of the document, each of which gets a test of its own. A sentence is found by its head and its first
 * words; a test of words that do not stand there, or a sentence that got no test, is a failure. The answers that a
 * "Returns" tells, parted by semicolons, count as sentences.
 */
final class Sentences {
    private static final class Sentence {
        final String head;
        final String text;
        boolean taken;

        Sentence(String head, String text) {
            this.head = head;
            this.text = text;
        }
    }

    private final List<Sentence> all = new ArrayList<>();
    private String head = "";
    private Sentence current;
    private int asked;
    private int wrong;

    Sentences(Path document) throws IOException {
        boolean code = false;
        boolean example = false;
        String under = "";
        for (String line : Files.readAllLines(document)) {
            code ^= line.startsWith("```");
            example = line.startsWith("Example") || example && !line.isEmpty();
            if (line.startsWith("## ") || line.matches("[A-Z]+( [A-Z]+)*")) {
                under = line.replace("## ", "");
            } else if (!code && !example && !line.matches("|```|# .*|`.*|---- .*")) {
                cut(under, line.strip());
            }
        }
    }

    private void cut(String under, String line) {
        if (line.startsWith("- `")) {
            all.add(new Sentence(under, line));
            return;
        }
        for (String text : line.replaceFirst("^\\d\\. ", "").split("(?<=\\.|\\.\\)|:)\\s+(?=[A-Z(])")) {
            boolean answers = under.startsWith("Promise") && text.startsWith("Returns ");
            for (String part : answers ? text.replaceFirst("\\.$", "").split("; ") : new String[] {text}) {
                all.add(new Sentence(under, part));
            }
        }
    }

    void under(String newHead) {
        head = newHead;
    }

    /** The test of the sentence under the present head that begins so. */
    void of(String beginning, Runnable test) {
        current = take(beginning);
        int before = asked;
        test.run();
        if (asked == before) {
            fail("nothing is asked: " + head + ": " + beginning);
        }
    }

    /** Sentences under the present head that name no case at all, so that there is nothing to test. */
    void nothingIn(String... beginnings) {
        for (String beginning : beginnings) {
            take(beginning);
        }
    }

    private Sentence take(String beginning) {
        for (Sentence s : all) {
            if (!s.taken && s.head.equals(head) && s.text.startsWith(beginning)) {
                s.taken = true;
                return s;
            }
        }
        fail("the document has no such sentence, or it is taken: " + head + ": " + beginning);
        return new Sentence(head, beginning);
    }

    void due(String what, long got, long want) {
        asked++;
        if (got != want) {
            fail(current.head + ", \"" + current.text + "\": " + what + " answered " + got + ", due is " + want);
        }
    }

    void due(String what, boolean got, boolean want) {
        due(what, got ? 1 : 0, want ? 1 : 0);
    }

    /** The call answers as due, and nothing that the desk tells is another thing than before. */
    void unchanged(HelpDesk x, String what, ToLongFunction<HelpDesk> call, long want) {
        String before = Desks.picture(x);
        due(what, call.applyAsLong(x), want);
        due(what + " changes nothing", Desks.picture(x).equals(before), true);
    }

    private void fail(String message) {
        wrong++;
        System.out.println(message);
    }

    void finish() {
        for (Sentence s : all) {
            if (!s.taken) {
                fail("no test: " + s.head + ": " + s.text);
            }
        }
        System.out.println(all.size() + " sentences, " + asked + " answers, " + wrong + " not as due");
        if (wrong != 0 || asked == 0) {
            System.exit(1);
        }
    }
}
