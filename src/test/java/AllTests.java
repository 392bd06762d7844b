import java.nio.file.Path;

/** Runs the project's tests; the arguments are the paths of DOC.md and of the project. */
public final class AllTests {
    private AllTests() {
    }

    public static void main(String[] args) throws Exception {
        Path document = Path.of(args[0]);
        Path project = Path.of(args[1]);
        InputTests.run();
        DescriptionTests.run();
        ScriptTests.run();
        SeamTests.run();
        TimeTests.run();
        SpotTests.run();
        LabelTests.run();
        ExplanationTests.run();
        MeasureTests.run();
        ChangeTests.run();
        UndoTests.run();
        OutputTests.run();
        FullTests.run();
        GlobeLimitTests.run();
        TravelLimitTests.run();
        LabelLimitTests.run();
        TextLimitTests.run();
        ScriptLimitTests.run();
        UndoLimitTests.run();
        PromiseLimitTests.run();
        AnswerLimitTests.run();
        RangeTests.run();
        RefusalTests.run();
        WholeTests.run();
        AgreementTests.run();
        FaceTests.run(document, project.resolve("src/main/java/DateHem.java"));
        ReadmeTests.run(project.resolve("README.md"), project.resolve("src/test/java"));
        RoomTests.run();
        RandomTests.run();
        Check.part("what is tested");
        Check.dueForAll("promise", 58);
        Check.dueForAll("section", 8);
        Check.finish();
    }
}
