/** Runs every test of the project; the exit code is 1 if one failed. */
public final class AllTests {
    private AllTests() {
    }

    public static void main(String[] args) throws Exception {
        SparrowTests.run();
        CourseTests.run();
        TextTests.run();
        SnapshotTests.run();
        LookTests.run();
        ForesightTests.run();
        AccountTests.run();
        CallEdges.run();
        SecondEdges.run();
        TextEdges.run();
        SnapshotEdges.run();
        LookEdges.run();
        ForesightEdges.run();
        AccountEdges.run();
        StayEdges.run();
        ModelTest.run();
        LanguageTest.run();
        System.out.println(Check.passed + " passed, " + Check.failed + " failed");
        System.exit(Check.failed == 0 && Check.passed > 0 ? 0 : 1);
    }
}
