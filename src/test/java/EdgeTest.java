/**
 * Each sentence of the document that names a boundary case, with a test of its own; all promises. Ends
 * with a look at whether words of the document are left that no test quotes.
 */
public final class EdgeTest {
  public static void main(String[] args) {
    Edges edges = new Edges();
    WireEdges.ask(edges);
    TokenEdges.ask(edges);
    FaultEdges.ask(edges);
    StepEdges.ask(edges);
    LikeEdges.ask(edges);
    TapeEdges.ask(edges);
    LookEdges.ask(edges);
    RunEdges.ask(edges);
    ShelfEdges.ask(edges);
    OutEdges.ask(edges);
    edges.close();
  }
}
