/** Runs every test of the project; the arguments are the paths of HullKeepers.java and of README.md. */
public final class AllTests {
    private AllTests() {
    }

    public static void main(String[] args) throws Exception {
        ShipsTest.run();
        MonthsTest.run();
        ReadingsTest.run();
        TextsTest.run();
        FleetTest.run();
        FindingTest.run();
        ImagesTest.run();
        RangesTest.run();
        RefusalsTest.run();
        ShipEdgesTest.run();
        MonthEdgesTest.run();
        ReadingEdgesTest.run();
        TextEdgesTest.run();
        FleetEdgesTest.run();
        FindingEdgesTest.run();
        ImageEdgesTest.run();
        AnyCallsTest.run();
        PlainRunsTest.run();
        LanguageTest.run(args.length > 0 ? args[0] : "src/main/java/HullKeepers.java");
        ReadmeTest.run(args.length > 1 ? args[1] : "README.md");
        if (!Check.sumUp()) {
            System.exit(1);
        }
    }
}
