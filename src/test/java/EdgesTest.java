import java.nio.file.Path;

/** Each sentence of the document that names an edge, with a test of its own. */
public final class EdgesTest {
    public static void main(String[] args) throws Exception {
        Path root = Path.of(args.length > 0 ? args[0] : ".");
        Edge.open(root.resolve("../shared/DOC.md"));
        EdgesOfBoys.test();
        EdgesOfMinutes.test();
        EdgesOfThought.test();
        EdgesOfTexts.test();
        EdgesOfSheets.test();
        EdgesOfRows.test();
        Edge.allSentencesQuoted();
        Due.end("EdgesTest");
    }
}
