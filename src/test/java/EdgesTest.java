import java.io.IOException;

/** The sentences of the document that name a boundary, each by a test of its own. */
public final class EdgesTest {
  public static void main(String[] args) throws IOException {
    Edges edges = new Edges();
    new TermsEdges(edges).run();
    new ValuesEdges(edges).run();
    new PlacesEdges(edges).run();
    new TablesEdges(edges).run();
    new FormsEdges(edges).run();
    new GraphsEdges(edges).run();
    new ReadingsEdges(edges).run();
    edges.end();
  }
}
