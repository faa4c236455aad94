import java.nio.file.Path;

/** Runs every test of the project; its arguments are the paths of Sandpiper.java and of the document. */
public final class AllTests {
    public static void main(String[] args) throws Exception {
        if (args.length != 2) {
            System.out.println("the paths of Sandpiper.java and of DOC.md are missing");
            System.exit(1);
        }
        Check check = new Check();
        Document document = new Document(check, Path.of(args[1]));
        BeachTest.run(document);
        SlidingTest.run(document);
        SandTest.run(document);
        PlantsTest.run(document);
        WallsTest.run(document);
        WavesTest.run(document);
        WindTest.run(document);
        StormTest.run(document);
        HeightsTest.run(document);
        WaterTest.run(document);
        SumsTest.run(document);
        document.checkThatAllIsNamed();
        HardCasesTest.run(check);
        RandomRunsTest.run(check);
        FaceTest.run(check, Path.of(args[0]));
        System.out.println(check.passed() + " passed, " + check.failed() + " failed");
        if (check.failed() != 0) {
            System.exit(1);
        }
    }
}
