import java.io.IOException;
import java.nio.file.Files;
import java.nio.file.Path;

/** Each sentence of ../shared/DOC.md, above all those that name an edge, with a test that quotes it. */
public final class EdgesTest {
    public static void main(String[] args) throws IOException {
        Edges edges = new Edges(Files.readString(Path.of("../shared/DOC.md")));
        HeadEdges.all(edges);
        TextsEdges.all(edges);
        SittingsEdges.all(edges);
        LayersEdges.all(edges);
        SmellsEdges.all(edges);
        PlansEdges.all(edges);
        SmeltEdges.all(edges);
        ChancesEdges.all(edges);
        SheetsEdges.all(edges);
        RefusalsEdges.all(edges);
        edges.end();
    }
}
