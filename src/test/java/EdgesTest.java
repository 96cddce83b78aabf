import java.io.IOException;
import java.nio.file.Path;

/** Each sentence of the document that names an edge has a test of its own; none of them is without one. */
public final class EdgesTest {
  public static void main(String[] args) throws IOException {
    Check check = new Check();
    Sentences doc = new Sentences(check, Path.of("../shared/DOC.md"));
    new StateEdges(doc, check).all();
    new LandEdges(doc, check).all();
    new MindEdges(doc, check).all();
    new RoadEdges(doc, check).all();
    new MoreEdges(doc, check).all();
    new CallEdges(doc, check).all();
    doc.allEdgesAreQuoted();
    check.end();
  }
}
