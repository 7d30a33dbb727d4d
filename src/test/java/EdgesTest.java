import java.io.IOException;

/** Each sentence of promises 1 to 26, and of the Terms, at its edges; and that no word of them is left out. */
public final class EdgesTest {
    public static void main(String[] args) throws IOException {
        Doc doc = new Doc();
        Due due = new Due();
        Edges[] all = {new RefusalEdges(doc, due), new HangingEdges(doc, due), new TextEdges(doc, due),
            new WintersEdges(doc, due), new WaysEdges(doc, due), new SightsEdges(doc, due),
            new ChanceEdges(doc, due), new ImageEdges(doc, due)};
        for (Edges edges : all) {
            edges.run();
            edges.end();
        }
        due.due("promises and Terms", doc.promising().size(), 27);
        for (String section : doc.promising()) {
            String left = doc.unspoken(section);
            due.due(section + ": no test speaks of \"" + left + "\"", left.length(), 0);
        }
        due.end();
    }
}
