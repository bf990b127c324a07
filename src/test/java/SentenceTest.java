import java.io.IOException;
import java.nio.file.Path;

/** Each sentence of the document's sections and promises, with checks of its own; none is passed over. */
public final class SentenceTest {
    private SentenceTest() {
    }

    public static void main(String[] args) throws IOException {
        Sentences sentences = new Sentences(Path.of("../shared/DOC.md"));
        new SectionChecks(sentences).all();
        new TextChecks(sentences).all();
        new CallChecks(sentences).all();
        new ChangeChecks(sentences).all();
        System.exit(sentences.end() == 0 ? 0 : 1);
    }
}
