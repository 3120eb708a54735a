import java.io.IOException;

/**
 * Every sentence of the document that names a boundary case, with runs of its own: the last value that is taken and the
 * first that is refused, the empty and the full thing, the wrap-around, and the order of error codes.
 */
public final class BoundariesTest {
    public static void main(String[] args) throws IOException {
        TextBoundaries.all();
        EditBoundaries.all();
        CaseBoundaries.all();
        FoundBoundaries.all();
        JudgeBoundaries.all();
        SeenBoundaries.all();
        ShareBoundaries.all();
        SlotBoundaries.all();
        RefusalBoundaries.all();
        Sentence.compareWithDocument();
        System.out.println("boundaries of " + Sentence.howMany() + " sentences");
        Run.end("BoundariesTest");
    }
}
