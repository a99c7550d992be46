import java.io.IOException;

/**
 * The document sentence by sentence: each one has scripts of its own, and a sentence that has none is a fault. The
 * scripts stand under src/test/edges.
 */
public final class EdgeTest {
    public static void main(String[] args) throws IOException {
        Sentences document = new Sentences();
        new DescriptionEdges(document).run();
        new ChainEdges(document).run();
        new DistanceEdges(document).run();
        new PathEdges(document).run();
        new InputEdges(document).run();
        new ArrayEdges(document).run();
        document.complainOfUntested();
        System.out.println(document.wrong() == 0 ? "all answers are as due" : document.wrong() + " faults");
        if (document.wrong() != 0) {
            System.exit(1);
        }
    }
}
