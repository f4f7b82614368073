/** Runs every test of the project; exit code 1 if an answer was not as due. */
public final class AllTests {
    private AllTests() {
    }

    public static void main(String[] args) throws Exception {
        FaceTest.run();
        LanguageTest.run();
        TextsTest.run();
        EntriesTest.run();
        VisitorsTest.run();
        HistoryTest.run();
        TellingTest.run();
        ModelTest.run();
        System.out.println(Check.right() + " answers as due, " + Check.wrong() + " not");
        if (Check.wrong() != 0) {
            System.exit(1);
        }
    }
}
