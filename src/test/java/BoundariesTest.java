import java.io.IOException;
import java.nio.file.Path;

/** Each sentence of the document has a test of its own; those that name an edge are tested on both sides of it. */
public final class BoundariesTest {
    public static void main(String[] args) throws IOException {
        Sentences s = new Sentences(Path.of("../shared/DOC.md"));
        Group[] groups = {new PlainSentences(s), new MinuteSentences(s), new HistorySentences(s),
            new LogSentences(s), new CalendarSentences(s), new ChangeSentences(s), new TicketSentences(s),
            new QuerySentences(s), new ForecastSentences(s), new ScriptSentences(s), new SavedSentences(s)};
        for (Group group : groups) {
            group.test();
        }
        s.finish();
    }
}
