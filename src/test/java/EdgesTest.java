import java.io.IOException;

/**
 * Promises 1 to 40: each sentence of the document that names an edge, with the answers that are due there; and that
 * there is no such sentence without them.
 */
public final class EdgesTest {
    public static void main(String[] args) throws IOException {
        Check check = new Check("EdgesTest");
        Doc doc = new Doc();
        Edges edges = new Edges(check, doc);
        new TextEdges(edges).run();
        new ChangeEdges(edges).run();
        new RingEdges(edges).run();
        new FeastEdges(edges).run();
        new HeardEdges(edges).run();
        new SheetEdges(edges).run();
        new RefusedEdges(edges).run();
        if (Doc.isThere()) {
            everyEdgeQuoted(check, doc);
        }
        check.close();
    }

    private static void everyEdgeQuoted(Check check, Doc doc) {
        check.due("promises in the document", doc.promises(), 40);
        for (int section = 0; section <= doc.promises(); section++) {
            String words = doc.edgeLeft(section);
            check.isTrue("Section " + section + " has an edge that no test quotes: .." + words + "..", words.isEmpty());
        }
    }
}
