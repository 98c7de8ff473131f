/** Runs every test of the project, and asks that each promise was asked for. */
public final class AllTests {
    private AllTests() {
    }

    public static void main(String[] args) throws Exception {
        LocksTest.run();
        StepsTest.run();
        WaysOutTest.run();
        SmithsTest.run();
        SoundsTest.run();
        DrawsTest.run();
        TextsTest.run();
        SheetsTest.run();
        ImagesTest.run();
        FindingsTest.run();
        TermsEdgesTest.run();
        TextsEdgesTest.run();
        LocksEdgesTest.run();
        WaysEdgesTest.run();
        SmithsEdgesTest.run();
        SoundsEdgesTest.run();
        SheetsEdgesTest.run();
        ImagesEdgesTest.run();
        ModelTest.run();
        WildTest.run();
        LanguageTest.run(args.length > 0 ? args[0] : "src/main/java/ChainedChest.java");
        ReadmeTest.run("README.md");
        for (int promise = 1; promise <= Check.PROMISES; promise++) {
            Check.isTrue("promise " + promise + " has a test", Check.asked(promise) > 0);
        }
        Check.close();
        if (Check.failed() > 0) {
            System.exit(1);
        }
    }
}
