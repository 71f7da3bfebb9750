/** Runs every test of the project; ends with exit code 1 if one failed. */
public final class AllTests {
    private AllTests() {
    }

    /** The one argument is the path of CliffSerial.java. */
    public static void main(String[] args) throws Exception {
        FaceTests.run();
        LanguageTests.run(args[0]);
        SceneTests.run();
        PaperTests.run();
        WeekTests.run();
        HistoryTests.run();
        TextTests.run();
        LookingTests.run();
        PlanTests.run();
        EdgesOfScenes.run();
        EdgesOfInstalments.run();
        EdgesOfActions.run();
        EdgesOfHistory.run();
        EdgesOfText.run();
        EdgesOfLooking.run();
        EdgesOfPlans.run();
        FarArguments.run();
        RoomTests.run();
        RandomRuns.run();
        System.out.println(Check.passed + " passed, " + Check.failed + " failed");
        if (Check.failed > 0) {
            System.exit(1);
        }
    }
}
