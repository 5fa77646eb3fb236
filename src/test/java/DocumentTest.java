import java.io.IOException;
import java.nio.file.Files;
import java.nio.file.Path;

/** The document from its first line to its last: whole sentences (WordsOf*), and their bounds (BoundsOf*). */
public final class DocumentTest {
  public static void main(String[] args) throws IOException {
    Sentences sentences = new Sentences(Files.readString(Path.of("../shared/DOC.md")));
    new WordsOfTelling(sentences).run();
    new WordsOfEvenings(sentences).run();
    new WordsOfPromises(sentences).run();
    new BoundsOfTelling(sentences).run();
    new BoundsOfTheTable(sentences).run();
    new BoundsOfEvenings(sentences).run();
    new BoundsOfTrials(sentences).run();
    new BoundsOfRows(sentences).run();
    new BoundsOfRefusals(sentences).run();
    sentences.end("DocumentTest");
  }
}
