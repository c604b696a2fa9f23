/** Runs every test of the project; ends with exit code 1 if one check fails. Takes the path of the program. */
public final class AllTests {
    private AllTests() {
    }

    public static void main(String[] args) throws Exception {
        FaceTest.run();
        LanguageTest.run(args[0]);
        ReadmeTest.run();
        TextTest.run();
        SeasonTest.run();
        ServiceTest.run();
        CostTest.run();
        ChangeTest.run();
        BufferBoundaryTest.run();
        TextBoundaryTest.run();
        SeasonBoundaryTest.run();
        ServiceBoundaryTest.run();
        ReasonBoundaryTest.run();
        CostBoundaryTest.run();
        ChangeBoundaryTest.run();
        RandomTest.run();
        Sentences.complete();
        System.out.println("project tests: " + Checks.summary() + ", " + Sentences.summary());
        if (Checks.failures() != 0) {
            System.exit(1);
        }
    }
}
