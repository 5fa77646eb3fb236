import java.io.IOException;
import java.nio.file.Files;
import java.nio.file.Path;

/** The boundary cases that the document names, each under its promise and its sentence. */
public final class BoundaryTest {
  public static void main(String[] args) throws IOException {
    Sentences sentences = new Sentences(Files.readString(Path.of("../shared/DOC.md")));
    new BoundsOfTelling(sentences).run();
    new BoundsOfTheTable(sentences).run();
    new BoundsOfEvenings(sentences).run();
    new BoundsOfTrials(sentences).run();
    new BoundsOfRows(sentences).run();
    new BoundsOfRefusals(sentences).run();
    sentences.end("BoundaryTest");
  }
}
