import java.io.IOException;
import java.nio.file.Path;

/**
 * Every sentence of the document, by its own words and its promise's number: what is too small, too large, empty, full,
 * wrapped around or refused. Takes the source's path and the document's.
 */
public final class EdgeTest {
    public static void main(String[] args) throws IOException {
        EdgeFirst.run(Path.of(args[0]));
        EdgeShelves.run();
        EdgeWell.run();
        EdgeVoices.run();
        EdgeWord.run();
        EdgeTold.run();
        EdgePlay.run();
        EdgeTruth.run();
        Edge.looksAt(Path.of(args[1]));
        Check.end("EdgeTest");
    }
}
