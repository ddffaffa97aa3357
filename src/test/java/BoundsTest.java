import java.nio.file.Files;
import java.nio.file.Path;

/** Every sentence of the document: the last value that is taken, the first that is refused, and that what is refused changes nothing. */
public final class BoundsTest {
    private static final Path DOCUMENT = Path.of("../shared/DOC.md");

    public static void main(String[] args) throws Exception {
        Bounds b = new Bounds();
        TermsBounds.all(b);
        MembersBounds.all(b);
        AskingsBounds.all(b);
        FloorBounds.all(b);
        VotesBounds.all(b);
        MinutesBounds.all(b);
        SheetsBounds.all(b);
        if (Files.isReadable(DOCUMENT)) {
            b.everySentenceHasATest(DOCUMENT);
        } else {
            System.out.println("without " + DOCUMENT + " it was not looked whether every sentence has a test");
        }
        b.end();
    }
}
