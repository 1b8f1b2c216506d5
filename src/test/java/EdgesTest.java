import java.io.IOException;
import java.nio.file.Path;

/**
 * The document's boundary cases, sentence by sentence: at the boundary, one below it and one beyond it. Each sentence is
 * quoted word for word and looked up in ../shared/DOC.md; each promise must have one at least.
 */
public final class EdgesTest {
    public static void main(String[] args) throws IOException {
        Check check = new Check("EdgesTest");
        Edge e = new Edge(check, Path.of("../shared/DOC.md"));
        TrayEdges.run(e);
        ShelfEdges.run(e);
        DaysEdges.run(e);
        DoEdges.run(e);
        HaveEdges.run(e);
        MayBeEdges.run(e);
        LifeEdges.run(e);
        StatusEdges.run(e);
        e.allQuoted();
        check.end();
    }
}
