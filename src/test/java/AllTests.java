import java.nio.file.Path;

/** Runs the project's tests; its last line tells how many passed and failed. */
public final class AllTests {
    /** The arguments are the paths of the class, of the document and of the README. */
    public static void main(String[] args) {
        Tally tally = new Tally();
        TextTests.run(tally);
        LookTests.run(tally);
        ActionTests.run(tally);
        QuestionTests.run(tally);
        ScriptTests.run(tally);
        SlotTests.run(tally);
        runEdges(tally, new Document(Path.of(args[1])));
        FaceTests.run(tally);
        SourceTests.run(tally, Path.of(args[0]));
        ReadmeTests.run(tally, Path.of(args[2]));
        ModelTests.run(tally);
        System.out.println("own: " + tally.passed() + " passed, " + tally.failed() + " failed");
        System.exit(tally.failed() == 0 ? 0 : 1);
    }

    private static void runEdges(Tally tally, Document document) {
        Edges.Book book = new Edges.Book(tally, document);
        TextEdgeTests.run(book);
        LookEdgeTests.run(book);
        WriteEdgeTests.run(book);
        ProcessEdgeTests.run(book);
        MarryEdgeTests.run(book);
        PressEdgeTests.run(book);
        QuestionEdgeTests.run(book);
        ScriptEdgeTests.run(book);
        SimulateEdgeTests.run(book);
        SlotEdgeTests.run(book);
        RefusalEdgeTests.run(book);
        book.close();
    }
}
