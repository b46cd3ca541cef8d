import java.io.IOException;
import java.nio.file.Path;

/** For each sentence of the document that names a boundary case a test of its own; fails also if a sentence has none. */
public final class BoundaryTests {
    public static void main(String[] args) throws IOException {
        Sentences doc = new Sentences(Path.of("../shared/DOC.md"), args.length > 0);
        new StopBoundaries(doc).holdAll();
        new ServiceBoundaries(doc).holdAll();
        new TripBoundaries(doc).holdAll();
        new TextBoundaries(doc).holdAll();
        new LatenessBoundaries(doc).holdAll();
        new WayBoundaries(doc).holdAll();
        new ChainBoundaries(doc).holdAll();
        new PairBoundaries(doc).holdAll();
        new WaitBoundaries(doc).holdAll();
        new CutBoundaries(doc).holdAll();
        new FigureBoundaries(doc).holdAll();
        new RefusedBoundaries(doc).holdAll();
        doc.needAll();
        System.out.println("BoundaryTests: " + doc.sum());
        if (doc.wrong() > 0) {
            System.exit(1);
        }
    }
}
