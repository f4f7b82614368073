/** Runs every test of the project; exit code 1 if an answer was not as due. */
public final class AllTests {
    /** The tests take some seconds; a call that does not end must not keep the script from ending. */
    private static final int MOST_MINUTES = 5;

    private AllTests() {
    }

    public static void main(String[] args) throws Exception {
        endInAnyCase();
        Check.begin("FaceTest");
        FaceTest.run();
        Check.begin("LanguageTest");
        LanguageTest.run();
        Check.begin("ReadmeTest");
        ReadmeTest.run();
        Check.begin("TextsTest");
        TextsTest.run();
        Check.begin("EntriesTest");
        EntriesTest.run();
        Check.begin("VisitorsTest");
        VisitorsTest.run();
        Check.begin("HistoryTest");
        HistoryTest.run();
        Check.begin("TellingTest");
        TellingTest.run();
        SentenceTests.run();
        ModelTest.run();
        System.out.println(Check.right() + " answers as due, " + Check.wrong() + " not");
        if (Check.wrong() != 0) {
            System.exit(1);
        }
    }

    private static void endInAnyCase() {
        Thread watch = new Thread(() -> {
            try {
                Thread.sleep(MOST_MINUTES * 60_000L);
            } catch (InterruptedException thrown) {
                return;
            }
            System.out.println(Check.running() + "no end after " + MOST_MINUTES + " minutes");
            Runtime.getRuntime().halt(1);
        });
        watch.setDaemon(true);
        watch.start();
    }
}
