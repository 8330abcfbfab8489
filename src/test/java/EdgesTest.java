import java.nio.file.Path;

/**
 * Every sentence of the document, from what it is to its last promise, has a test of its own, at
 * the edges that it names. Each is told by its words, and no words may be left.
 */
public final class EdgesTest {
    public static void main(String[] args) {
        Due due = new Due("EdgesTest");
        Document document = new Document(due, Path.of("..", "shared", "DOC.md"));
        Edges edges = new Edges(due, document);
        new ExactEdges(edges).run();
        new CallEdges(edges).run();
        new TermEdges(edges).run();
        new MinorTermEdges(edges).run();
        new FormTermEdges(edges).run();
        new MatrixEdges(edges).run();
        new FormEdges(edges).run();
        new PrintEdges(edges).run();
        document.end();
        due.end();
    }
}
