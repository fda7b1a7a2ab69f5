import java.io.IOException;
import java.nio.file.Path;

/**
 * Each sentence of the document that names a boundary case (too small, too large, empty, full, a
 * wrap-around, a refused call) has a test of its own, which quotes it.
 */
public final class BoundariesTest {

    private BoundariesTest() {
    }

    public static void main(String[] args) throws IOException {
        Sentences sentences = new Sentences();
        new TermsBoundaries(sentences).all();
        new PromiseBoundaries(sentences).all();
        new Refusals(sentences).all();
        sentences.end(Path.of("..", "shared", "DOC.md"));
    }
}
