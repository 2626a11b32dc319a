import java.io.IOException;
import java.nio.file.Path;
import java.util.ArrayList;
import java.util.List;

/** The document, sentence by sentence: each boundary case that it names has a test of its own. */
public final class SentencesTest {
    public static void main(String[] args) throws IOException {
        TermsSentences.all();
        GrowthSentences.all();
        TextSentences.all();
        HistorySentences.all();
        AncestorSentences.all();
        WaysSentences.all();
        ShapesSentences.all();
        List<String> sections = new ArrayList<>(List.of("What it is", "Terms"));
        for (int promise = 1; promise <= 27; promise++) {
            sections.add("Promise " + promise);
        }
        Sentence.compareWith(Path.of("../shared/DOC.md"), sections);
        Due.end();
    }
}
