import java.nio.file.Path;

/** Runs every test of the project; ends with exit code 1 if one failed. */
public final class AllTests {
    private AllTests() {
    }

    /** The arguments: the project's folder, and one that does not exist yet, for what the tests make. */
    public static void main(String[] args) throws Exception {
        Path project = Path.of(args[0]);
        FaceTests.run();
        LanguageTests.run(project.resolve("src/main/java/CliffSerial.java"));
        ReadmeTests.run(project, Path.of(args[1]));
        SceneTests.run();
        PaperTests.run();
        WeekTests.run();
        HistoryTests.run();
        TextTests.run();
        LookingTests.run();
        PlanTests.run();
        EdgesOfScenes.run();
        EdgesOfInstalments.run();
        EdgesOfActions.run();
        EdgesOfHistory.run();
        EdgesOfText.run();
        EdgesOfLooking.run();
        EdgesOfPlans.run();
        FarArguments.run();
        RoomTests.run();
        RandomRuns.run();
        PlanRuns.run();
        System.out.println(Check.passed + " passed, " + Check.failed + " failed");
        if (Check.failed > 0) {
            System.exit(1);
        }
    }
}
