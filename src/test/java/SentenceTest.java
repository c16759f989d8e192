import java.io.IOException;

/** Every sentence of the document has a test of its own, with the edges that it names, and holds. */
public final class SentenceTest {
    public static void main(String[] args) throws IOException {
        Sentences sentences = new Sentences();
        SentenceGroup[] groups = {
            new TableSentences(sentences), new FilterSentences(sentences), new ResultSentences(sentences),
            new ExplanationSentences(sentences), new RepairSentences(sentences), new WishSentences(sentences),
            new ScriptSentences(sentences), new UndoSentences(sentences),
        };
        for (SentenceGroup group : groups) {
            group.run();
        }
        sentences.end();
    }
}
