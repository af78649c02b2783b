import java.io.IOException;
import java.nio.file.Path;

/** Every sentence of the document that names a boundary case, cited and tested on both sides. */
public final class EdgeTest {
    public static void main(String[] args) throws IOException {
        Document.open(Path.of(args.length > 1 ? args[1] : "../shared", "DOC.md"));
        TermEdges.run();
        TurnEdges.run();
        TextEdges.run();
        ChangeEdges.run();
        AnswerEdges.run();
        ActEdges.run();
        Document.everySentenceIsCited();
        Check.finish();
    }
}
