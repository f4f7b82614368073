/** Promises 8 to 12: visitors, touching, reading, and turning. */
final class VisitorsTest {
    private VisitorsTest() {
    }

    static void run() {
        enter();
        touch();
        touchOpensTheText();
        read();
        roundedTimes();
        newTextsWereNeverRead();
        turn();
        setTurning();
    }

    /** Promise 8. */
    private static void enter() {
        Carousel x = new Carousel();
        Check.due("enter without a text", x.enter(4, 30, 1), 9);
        Check.visitor(x, 4, 30, 1, 0, 0, -5);
        x.addText(0, 1, 1, 0, 3);
        x.addText(0, 60, 1, 0, 4);
        Check.due("enter", x.enter(99, 400, 9999), 1);
        Check.visitor(x, 99, 400, 9999, 0, 0, 1);
        Check.due("enter", x.enter(33, 200, 100), 0);
        x.read();
        Check.visitor(x, 33, 200, 99, 3, 2, 0);
        Check.due("who comes knows nothing", x.enter(34, 201, 101), 1);
        Check.visitor(x, 34, 201, 101, 0, 0, 1);
        Check.due("age 3", x.enter(3, 100, 100), -2);
        Check.due("age 100", x.enter(100, 100, 100), -2);
        Check.due("pace 29", x.enter(10, 29, 100), -2);
        Check.due("pace 401", x.enter(10, 401, 100), -2);
        Check.due("no seconds", x.enter(10, 100, 0), -2);
        Check.due("10000 seconds", x.enter(10, 100, 10000), -2);
        Check.due("a divisor of 0", x.enter(10, 0, 100), -2);
        Check.visitor(x, 34, 201, 101, 0, 0, 1);
        Check.counts(x, 2, 0, 0, 5, 4, 1, 0, 1, 3, 4);
        x.turn(true);
        Check.due("at an exhibit without a text", x.enter(10, 100, 100), 9);
        Check.due("the carousel stands where it stood", x.count(2), 1);
    }

    /** Promise 9. */
    private static void touch() {
        Carousel x = new Carousel();
        x.addText(0, 60, 10, 0, 7);
        x.addCaption(0, 0, 10, 1);
        Check.due("no visitor", x.touch(0), -4);
        x.enter(20, 60, 69);
        Check.due("caption -1", x.touch(-1), -1);
        Check.due("caption 1", x.touch(1), -1);
        x.turn(true);
        Check.due("no text", x.touch(0), -4);
        Check.due("no text, before UNKNOWN", x.touch(3), -4);
        x.turn(false);
        Check.visitor(x, 20, 60, 59, 0, 0, 0);
        Check.due("no time for the text", x.touch(0), 1);
        Check.visitor(x, 20, 60, 49, 1, 1, 0);
        Check.due("nothing new", x.touch(0), 0);
        x.touch(0);
        x.touch(0);
        x.touch(0);
        Check.visitor(x, 20, 60, 9, 1, 1, 0);
        int states = x.count(9);
        Check.due("no time", x.touch(0), -5);
        Check.due("UNKNOWN before NONE", x.touch(1), -1);
        Check.visitor(x, 20, 60, 9, 1, 1, 0);
        Check.caption(x, 0, 0, 0, 10, 1, 5);
        Check.text(x, 0, 0, 60, 10, 0, 7, 7, 1, 0);
        Check.due("NONE is no act", x.count(9), states);
        Check.counts(x, 1, 1, 0, 5, 1, 0, 5, 1, 3);
        x.undo();
        Check.caption(x, 0, 0, 0, 10, 1, 4);
        Check.visitor(x, 20, 60, 19, 1, 1, 0);
        x.setTurning(9);
        x.turn(true);
        x.turn(false);
        Check.due("not a second too few", x.enter(20, 60, 10), 0);
        Check.due("not a second too few", x.touch(0), 1);
        Check.visitor(x, 20, 60, 0, 1, 1, 0);
    }

    /** Promise 9. */
    private static void touchOpensTheText() {
        Carousel x = new Carousel();
        x.addText(0, 60, 10, 0, 7);
        x.addCaption(0, 0, 10, 1);
        x.addCaption(0, 0, 10, 7);
        x.addCaption(0, 0, 10, 0);
        x.enter(20, 60, 70);
        Check.due("just time for the text", x.touch(0), 3);
        Check.visitor(x, 20, 60, 0, 7, 3, 0);
        Check.text(x, 0, 0, 60, 10, 0, 7, 7, 3, 1);
        x.enter(20, 60, 1000);
        Check.due("a caption that tells all", x.touch(1), 3);
        Check.visitor(x, 20, 60, 990, 7, 3, 0);
        Check.due("the text is not opened then", x.text(0, 0, 6), 1);
        x.setFacts(0, 0, 15);
        Check.due("one fact that was not learned", x.touch(2), 1);
        Check.visitor(x, 20, 60, 920, 15, 4, 0);
        Check.text(x, 0, 0, 60, 10, 0, 15, 7, 3, 2);
        Check.caption(x, 0, 0, 0, 10, 1, 1);
        Check.caption(x, 0, 0, 1, 10, 7, 1);
        Check.caption(x, 0, 0, 2, 10, 0, 1);
        x.enter(20, 60, 1000);
        Check.due("a caption that tells nothing", x.touch(2), 4);
        Check.counts(x, 1, 3, 0, 5, 3, 3, 4, 0, 4);
        x.addText(0, 90, 10, 0, 48);
        Check.due("the text that is shown has no caption", x.touch(0), -1);
    }

    /** Promise 10. */
    private static void read() {
        Carousel x = new Carousel();
        x.addText(0, 60, 10, 0, 7);
        Check.due("no visitor", x.read(), -4);
        x.enter(20, 60, 59);
        Check.due("no time", x.read(), -5);
        Check.due("no act", x.count(9), 2);
        x.enter(20, 60, 130);
        x.turn(true);
        Check.due("no text", x.read(), -4);
        x.turn(false);
        Check.due("read", x.read(), 3);
        Check.visitor(x, 20, 60, 60, 7, 3, 0);
        Check.due("nothing new", x.read(), -5);
        x.setFacts(0, 0, 12);
        Check.due("one new fact, and just time", x.read(), 1);
        Check.visitor(x, 20, 60, 0, 15, 4, 0);
        Check.due("how often", x.text(0, 0, 6), 2);
        x.addCaption(0, 0, 1, 0);
        x.enter(20, 60, 1000);
        Check.due("a text with captions", x.read(), -4);
        Check.visitor(x, 20, 60, 1000, 0, 0, 0);
        x.enter(20, 60, 1);
        Check.due("NOT_POSSIBLE before NONE", x.read(), -4);
        Check.counts(x, 1, 1, 0, 5, 4, 2, 0, 0, 2);
    }

    private static void roundedTimes() {
        Carousel x = new Carousel();
        x.addText(0, 1, 1, 0, 1);
        x.addText(1, 201, 10, 0, 1);
        x.addCaption(1, 0, 7, 1);
        x.setTurning(0);
        x.enter(99, 400, 10);
        x.read();
        Check.due("60 / 400, rounded up", x.visitor(2), 9);
        x.turn(true);
        x.enter(99, 41, 306);
        x.touch(0);
        Check.due("420 / 41, rounded up", x.visitor(2), 295);
        x.removeText(1, 0);
        x.addText(1, 201, 10, 0, 2);
        x.read();
        Check.due("12060 / 41, rounded up", x.visitor(2), 0);
        x.turn(false);
        x.enter(99, 59, 10);
        x.read();
        Check.due("60 / 59, rounded up", x.visitor(2), 8);
        x.enter(99, 60, 10);
        x.read();
        Check.due("60 / 60", x.visitor(2), 9);
    }

    /** What is new was never read, also where something stood that was. */
    private static void newTextsWereNeverRead() {
        Carousel x = new Carousel();
        x.addText(0, 10, 1, 0, 3);
        x.addCaption(0, 0, 1, 1);
        x.enter(99, 400, 100);
        x.touch(0);
        Check.text(x, 0, 0, 10, 1, 0, 3, 9, 1, 1);
        Check.caption(x, 0, 0, 0, 1, 1, 1);
        x.removeText(0, 0);
        x.addText(0, 11, 1, 0, 3);
        x.addCaption(0, 0, 2, 1);
        Check.text(x, 0, 0, 11, 1, 0, 3, 9, 1, 0);
        Check.caption(x, 0, 0, 0, 2, 1, 0);
        Check.counts(x, 1, 1, 0, 5, 1, 1, 1, 1, 2);
    }

    /** Promise 11. */
    private static void turn() {
        Carousel x = new Carousel();
        Check.due("turn", x.turn(false), 7);
        Check.due("turn", x.turn(false), 6);
        Check.due("turn", x.turn(true), 7);
        Check.due("turn", x.turn(true), 0);
        for (int exhibit = 1; exhibit < 8; exhibit++) {
            Check.due("turn", x.turn(true), exhibit);
        }
        Check.due("an act each", x.count(9), 4);
        Check.due("no visitor by it", x.visitor(2), -5);
        x.enter(10, 100, 12);
        Check.due("turn", x.turn(true), 0);
        Check.due("5 seconds", x.visitor(2), 7);
        x.turn(false);
        Check.due("5 seconds", x.visitor(2), 2);
        x.turn(false);
        Check.due("at least 0", x.visitor(2), 0);
        Check.due("turn without time", x.turn(true), 7);
        Check.due("at least 0", x.visitor(2), 0);
        x.undo();
        x.undo();
        Check.visitor(x, 10, 100, 2, 0, 0, -5);
        Check.due("undone", x.count(2), 7);
    }

    /** Promise 12. */
    private static void setTurning() {
        Carousel x = new Carousel();
        Check.due("as it is", x.setTurning(5), -5);
        Check.due("61", x.setTurning(61), -2);
        Check.due("-1", x.setTurning(-1), -2);
        Check.due("no act", x.count(9), 0);
        Check.due("60", x.setTurning(60), 5);
        Check.due("0", x.setTurning(0), 60);
        Check.due("as it is", x.setTurning(0), -5);
        Check.due("acts", x.count(9), 2);
        x.enter(10, 100, 50);
        x.turn(true);
        Check.due("no time by it", x.visitor(2), 50);
        Check.due("8", x.setTurning(8), 0);
        x.turn(true);
        Check.due("8 seconds", x.visitor(2), 42);
        Check.due("told", x.count(3), 8);
    }
}
