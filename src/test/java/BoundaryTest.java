import java.io.IOException;

/** For each sentence of the document that names a boundary, a test of its own. */
public final class BoundaryTest {
    public static void main(String[] args) throws IOException {
        GeneralBoundaries.all();
        TypingBoundaries.all();
        ReadingBoundaries.all();
        ValueBoundaries.all();
        PathBoundaries.all();
        PatchBoundaries.all();
        JoinBoundaries.all();
        SchemaBoundaries.all();
        TableBoundaries.all();
        Boundaries.compareWithDocument("../shared/DOC.md");
        if (!Boundaries.allAsDue()) {
            System.exit(1);
        }
    }
}
