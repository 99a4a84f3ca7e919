import java.io.IOException;
import java.nio.file.Path;

/** Each sentence of the document has a test of its own; those that name an edge are tested on both sides of it. */
public final class BoundariesTest {
    public static void main(String[] args) throws IOException {
        Sentences s = new Sentences(Path.of("../shared/DOC.md"));
        new PlainSentences(s).test();
        new MinuteSentences(s).test();
        new HistorySentences(s).test();
        new CalendarSentences(s).test();
        new ChangeSentences(s).test();
        new TicketSentences(s).test();
        new QuerySentences(s).test();
        new ForecastSentences(s).test();
        new ScriptSentences(s).test();
        new SavedSentences(s).test();
        s.finish();
    }
}
