import java.io.IOException;
import java.nio.file.Path;

/**
 * Each sentence of the document with a test of its own: what is too small or too large by one, what is
 * empty or full, what wraps around, and each refused call. The sections stand under sentences/.
 */
public final class SentencesTest {
    public static void main(String[] args) throws IOException {
        Sentences.open(Path.of("../shared/DOC.md"));
        WholeSentences.all();
        TableSentences.all();
        SchemeSentences.all();
        RowSentences.all();
        CodeSentences.all();
        SieveSentences.all();
        TextSentences.all();
        StateSentences.all();
        Sentences.close();
        Due.end();
    }
}
