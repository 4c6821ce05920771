import java.io.IOException;
import java.nio.file.Path;

/** Sentence by sentence: the edges that the document names, each test with the words that it holds. */
public final class EdgesTest {
    public static void main(String[] args) throws IOException {
        Edges edges = new Edges(new Document(Path.of(args.length > 1 ? args[1] : "../shared/DOC.md")));
        new TermsEdges(edges).look();
        new TicksEdges(edges).look();
        new TimesEdges(edges).look();
        new ErrandsEdges(edges).look();
        new TextsEdges(edges).look();
        new HistoryEdges(edges).look();
        new ViewsEdges(edges).look();
        new ForecastsEdges(edges).look();
        edges.allIsNamed();
        edges.end();
    }
}
