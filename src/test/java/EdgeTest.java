import java.io.IOException;

/** Every sentence of the document that names an edge has a test of its own, beside its words. */
public final class EdgeTest {
    public static void main(String[] args) throws IOException {
        Sentence.readDocument();
        ContainerEdges.run();
        LineEdges.run();
        FlexEdges.run();
        CrossEdges.run();
        ChangeEdges.run();
        QueryEdges.run();
        Sentence.end();
        Check.end();
    }
}
