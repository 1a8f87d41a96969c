import java.nio.file.Path;

/** Runs the project's tests; its last line tells how many passed and failed. */
public final class AllTests {
    public static void main(String[] args) {
        Tally tally = new Tally();
        TextTests.run(tally);
        LookTests.run(tally);
        ActionTests.run(tally);
        QuestionTests.run(tally);
        ScriptTests.run(tally);
        SlotTests.run(tally);
        FaceTests.run(tally);
        SourceTests.run(tally, Path.of(args[0]));
        ModelTests.run(tally);
        System.out.println("own: " + tally.passed() + " passed, " + tally.failed() + " failed");
        System.exit(tally.failed() == 0 ? 0 : 1);
    }
}
