import java.nio.file.Path;

/** Runs every test of the project; its argument is the path of Sandpiper.java. */
public final class AllTests {
    public static void main(String[] args) throws Exception {
        Check check = new Check();
        SandTest.run(check);
        PlantsAndWallsTest.run(check);
        WavesTest.run(check);
        HeightsTest.run(check);
        WaterTest.run(check);
        HardCasesTest.run(check);
        RandomRunsTest.run(check);
        FaceTest.run(check, Path.of(args.length > 0 ? args[0] : "src/main/java/Sandpiper.java"));
        System.out.println(check.passed() + " passed, " + check.failed() + " failed");
        if (check.failed() != 0) {
            System.exit(1);
        }
    }
}
