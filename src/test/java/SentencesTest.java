import java.io.IOException;
import java.nio.file.Path;

/** Each sentence of the document by a test of its own, found by its words; ../shared/DOC.md is read for that. */
public final class SentencesTest {
    public static void main(String[] args) throws IOException {
        Checks checks = new Checks("sentences");
        Sentences sentences = new Sentences(checks, Path.of("../shared/DOC.md"));
        SentenceTests[] parts = {
            new TermsSentences(sentences, checks),
            new TextTermsSentences(sentences, checks),
            new TurnsSentences(sentences, checks),
            new KeysSentences(sentences, checks),
            new BufferSentences(sentences, checks),
            new LooksSentences(sentences, checks),
            new WouldBeSentences(sentences, checks),
            new DigestSentences(sentences, checks),
        };
        for (SentenceTests part : parts) {
            part.all();
        }
        sentences.end();
    }
}
