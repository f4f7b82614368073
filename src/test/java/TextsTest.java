/** Promises 1 to 5: a new object, texts and captions. */
final class TextsTest {
    private TextsTest() {
    }

    static void run() {
        newObject();
        addText();
        addTextWithWrongInputs();
        removeText();
        setFacts();
        addCaption();
    }

    /** Promise 1. */
    private static void newObject() {
        Carousel x = new Carousel();
        Check.counts(x, 0, 0, 0, 5, 0, 0, 0, 0, 0, 0, 0, -2);
        Check.visitor(x, -5, -5, -5, -5, -5, -5, -2);
        for (int exhibit = 0; exhibit < 8; exhibit++) {
            Check.due("shown", x.shown(exhibit, 50), -5);
        }
        Check.due("undo", x.undo(), -5);
        Check.due("restore", x.restore(), -5);
        Check.due("refusal", x.refusal(0), -5);
    }

    /** Promise 2. */
    private static void addText() {
        Carousel x = new Carousel();
        Check.due("addText", x.addText(0, 1, 1, 0, 1), 0);
        Check.text(x, 0, 0, 1, 1, 0, 1, 4, 0, 0, -2);
        Check.due("addText", x.addText(0, 300, 50, 300, 65535), 1);
        Check.text(x, 0, 1, 300, 50, 300, 65535, 37, 0, 0, -2);
        Check.due("addText", x.addText(7, 99, 7, 10, 4096), 0);
        Check.text(x, 7, 0, 99, 7, 10, 4096, 14, 0, 0);
        Check.due("addText with as many sentences as words", x.addText(7, 50, 50, 1, 2), 1);
        Check.text(x, 7, 1, 50, 50, 1, 2, 4, 0, 0);
        Check.due("addText", x.addText(0, 2, 1, 1, 1), 2);
        Check.text(x, 0, 2, 2, 1, 1, 1, 20);
        Check.due("addText", x.addText(0, 3, 1, 1, 1), 3);
        Check.text(x, 0, 3, 3, 1, 1, 1, 15);
        Check.due("addText", x.addText(0, 4, 1, 1, 1), 4);
        Check.due("the sixth text", x.addText(0, 4, 1, 1, 1), -3);
        Check.counts(x, 7, 0, 0, 5, 0, 0, 0, 7, 16, 4);
    }

    /** Promise 2. */
    private static void addTextWithWrongInputs() {
        Carousel x = new Carousel();
        Check.due("exhibit -1", x.addText(-1, 0, 0, -1, 0), -1);
        Check.due("exhibit 8", x.addText(8, 10, 1, 0, 1), -1);
        Check.due("exhibit greatest", x.addText(Integer.MAX_VALUE, 10, 1, 0, 1), -1);
        Check.due("exhibit least", x.addText(Integer.MIN_VALUE, 10, 1, 0, 1), -1);
        Check.due("0 words", x.addText(0, 0, 1, 0, 1), -2);
        Check.due("0 words, 0 sentences", x.addText(0, 0, 0, 0, 1), -2);
        Check.due("301 words", x.addText(0, 301, 1, 0, 1), -2);
        Check.due("0 sentences", x.addText(0, 10, 0, 0, 1), -2);
        Check.due("51 sentences", x.addText(0, 100, 51, 0, 1), -2);
        Check.due("more sentences than words", x.addText(0, 10, 11, 0, 1), -2);
        Check.due("-1 long words", x.addText(0, 10, 1, -1, 1), -2);
        Check.due("more long words than words", x.addText(0, 10, 1, 11, 1), -2);
        Check.due("no facts", x.addText(0, 10, 1, 0, 0), -2);
        Check.due("facts beyond p", x.addText(0, 10, 1, 0, 65536), -2);
        Check.due("negative facts", x.addText(0, 10, 1, 0, -1), -2);
        Check.counts(x, 0, 0, 0, 5, 0, 0, 0, 0, 0, 0, 0);
        for (int text = 0; text < 5; text++) {
            x.addText(3, 10, 1, 0, 1);
        }
        Check.due("BAD_VALUE before FULL", x.addText(3, 0, 1, 0, 1), -2);
        Check.due("FULL", x.addText(3, 10, 1, 0, 1), -3);
        Check.due("another exhibit has room", x.addText(4, 10, 1, 0, 1), 0);
        Check.due("FULL is no act: 4 states", x.count(9), 4);
    }

    /** Promise 3. */
    private static void removeText() {
        Carousel x = new Carousel();
        for (int text = 0; text < 5; text++) {
            x.addText(7, 10 + text, 1, 0, 1 << text);
        }
        x.addText(6, 99, 1, 0, 32768);
        x.addCaption(7, 1, 5, 2);
        x.addCaption(7, 2, 6, 4);
        x.addCaption(7, 2, 7, 0);
        Check.due("removeText", x.removeText(7, 1), 4);
        Check.text(x, 7, 0, 10, 1, 0, 1, 9, 0, 0);
        Check.text(x, 7, 1, 12, 1, 0, 4, 10, 2, 0);
        Check.caption(x, 7, 1, 0, 6, 4, 0);
        Check.caption(x, 7, 1, 1, 7, 0, 0);
        Check.text(x, 7, 3, 14, 1, 0, 16, 11, 0, 0);
        Check.text(x, 7, 4, -1);
        Check.text(x, 6, 0, 99);
        Check.counts(x, 5, 2);
        Check.due("a text that is no more", x.removeText(7, 4), -1);
        Check.due("the last one", x.removeText(7, 3), 3);
        Check.due("room again", x.addText(7, 20, 1, 0, 8), 3);
        Check.text(x, 7, 3, 20, 1, 0, 8, 14, 0, 0);
        Check.due("text -1", x.removeText(7, -1), -1);
        Check.due("exhibit -1", x.removeText(-1, 0), -1);
        Check.due("exhibit 8", x.removeText(8, 0), -1);
        Check.due("an empty exhibit", x.removeText(0, 0), -1);
        Check.due("the only one", x.removeText(6, 0), 0);
        Check.due("undo", x.undo(), 3);
        Check.text(x, 6, 0, 99, 1, 0, 32768);
    }

    /** Promise 4. */
    private static void setFacts() {
        Carousel x = new Carousel();
        x.addText(2, 10, 1, 0, 7);
        Check.due("setFacts", x.setFacts(2, 0, 15), 7);
        Check.due("the same facts", x.setFacts(2, 0, 15), -5);
        Check.due("NONE is no act", x.count(9), 2);
        x.addCaption(2, 0, 1, 1);
        x.addCaption(2, 0, 1, 4);
        Check.due("the first caption tells more", x.setFacts(2, 0, 4), -4);
        Check.due("the second caption tells more", x.setFacts(2, 0, 1), -4);
        Check.due("no caption tells more", x.setFacts(2, 0, 5), 15);
        Check.text(x, 2, 0, 10, 1, 0, 5, 9, 2, 0);
        Check.due("all facts", x.setFacts(2, 0, 65535), 5);
        Check.due("no facts", x.setFacts(2, 0, 0), -2);
        Check.due("too many facts", x.setFacts(2, 0, 65536), -2);
        Check.due("negative facts", x.setFacts(2, 0, -1), -2);
        Check.due("UNKNOWN before BAD_VALUE", x.setFacts(2, 1, 0), -1);
        Check.due("text -1", x.setFacts(2, -1, 1), -1);
        Check.due("exhibit 8", x.setFacts(8, 0, 1), -1);
        Check.due("exhibit -1", x.setFacts(-1, 0, 1), -1);
        x.addCaption(2, 0, 1, 1);
        Check.due("two captions tell more", x.setFacts(2, 0, 4), -4);
        x.removeText(2, 0);
        x.addText(2, 10, 1, 0, 3);
        Check.due("captions of a removed text bind no later one", x.setFacts(2, 0, 8), 3);
    }

    /** Promise 5. */
    private static void addCaption() {
        Carousel x = new Carousel();
        x.addText(7, 10, 1, 0, 5);
        Check.due("addCaption", x.addCaption(7, 0, 1, 5), 0);
        Check.due("addCaption", x.addCaption(7, 0, 30, 0), 1);
        Check.caption(x, 7, 0, 0, 1, 5, 0, -2);
        Check.caption(x, 7, 0, 1, 30, 0, 0, -2);
        Check.due("0 words", x.addCaption(7, 0, 0, 1), -2);
        Check.due("31 words", x.addCaption(7, 0, 31, 1), -2);
        Check.due("negative facts", x.addCaption(7, 0, 1, -1), -2);
        Check.due("too many facts", x.addCaption(7, 0, 1, 65536), -2);
        Check.due("it would tell more", x.addCaption(7, 0, 1, 2), -4);
        Check.due("it would tell more besides", x.addCaption(7, 0, 1, 7), -4);
        Check.due("BAD_VALUE before NOT_POSSIBLE", x.addCaption(7, 0, 0, 2), -2);
        Check.due("UNKNOWN before BAD_VALUE", x.addCaption(7, 1, 0, 2), -1);
        Check.due("text -1", x.addCaption(7, -1, 1, 1), -1);
        Check.due("exhibit 8", x.addCaption(8, 0, 1, 1), -1);
        Check.due("exhibit -1", x.addCaption(-1, 0, 1, 1), -1);
        Check.counts(x, 1, 2, 0, 5, 0, 0, 0, 1, 2, 3);
        Check.due("the third", x.addCaption(7, 0, 2, 4), 2);
        Check.due("NOT_POSSIBLE before FULL", x.addCaption(7, 0, 1, 2), -4);
        Check.due("FULL", x.addCaption(7, 0, 1, 1), -3);
        Check.text(x, 7, 0, 10, 1, 0, 5, 9, 3);
        x.setFacts(7, 0, 65535);
        x.addText(7, 10, 1, 0, 65535);
        Check.due("all facts", x.addCaption(7, 1, 1, 65535), 0);
        Check.due("one state each", x.undo(), 3);
        Check.due("the caption is gone", x.text(7, 1, 5), 0);
    }
}
