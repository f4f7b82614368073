import java.util.List;

/** Promises 15 to 17: undo and the snapshot. */
final class HistoryTest {
    private HistoryTest() {
    }

    static void run() {
        undo();
        everyActIsUndone();
        keepAndRestore();
        whatIsNoPartOfAState();
        whatIsNoAct();
    }

    /** Promise 15. */
    private static void undo() {
        Carousel x = new Carousel();
        Check.due("an empty history", x.undo(), -5);
        for (int text = 0; text < 5; text++) {
            x.addText(0, 10 + text, 1, 0, 1);
            Check.due("at most 4 states", x.count(9), Math.min(text + 1, 4));
        }
        x.turn(true);
        for (int left = 3; left >= 0; left--) {
            Check.due("undo", x.undo(), left);
            Check.due("texts", x.count(0), left == 3 ? 5 : left + 2);
            Check.due("exhibit", x.count(2), 0);
        }
        Check.due("nothing is left", x.undo(), -5);
        Check.text(x, 0, 1, 11);
        Check.text(x, 0, 2, -1);
        x.addText(0, 20, 1, 0, 2);
        x.addText(0, 21, 1, 0, 2);
        Check.due("undo after acts that came later", x.undo(), 1);
        x.addText(0, 22, 1, 0, 2);
        Check.text(x, 0, 3, 22);
        Check.due("undo", x.undo(), 1);
        Check.due("undo", x.undo(), 0);
        Check.due("undo", x.undo(), -5);
        Check.counts(x, 2, 0, 0, 5, 0, 0, 0, 2, 1, 0);
        for (int acts = 0; acts < 50; acts++) {
            x.turn(true);
        }
        x.undo();
        x.undo();
        x.undo();
        Check.due("the oldest that is kept", x.undo(), 0);
        Check.due("46 turns", x.count(2), 46 % 8);
    }

    private static void everyActIsUndone() {
        for (int act = 0; act < 11; act++) {
            Carousel x = new Carousel();
            x.addText(0, 60, 6, 3, 7);
            x.keep();
            x.addText(1, 50, 5, 2, 15);
            x.addCaption(0, 0, 3, 1);
            x.enter(30, 100, 500);
            for (int earlier = 0; earlier < act; earlier++) {
                act(x, earlier);
            }
            List<String> before = Look.atState(x);
            int answer = act(x, act);
            Check.holds("act " + act + " is done", answer >= 0);
            List<String> after = Look.atState(x);
            Check.holds("act " + act + " changes something", !after.equals(before));
            Check.due("undo of act " + act, x.undo(), 3);
            Check.same("act " + act + " is undone", Look.atState(x), before);
            Check.due("act " + act + " again", act(x, act), answer);
            Check.same("act " + act + " does the same", Look.atState(x), after);
        }
    }

    private static int act(Carousel x, int act) {
        switch (act) {
            case 0: return x.addText(2, 40, 4, 1, 31);
            case 1: return x.addCaption(2, 0, 9, 2);
            case 2: return x.setFacts(2, 0, 63);
            case 3: return x.touch(0);
            case 4: return x.turn(true);
            case 5: return x.read();
            case 6: return x.setTurning(7);
            case 7: return x.enter(31, 101, 501);
            case 8: return x.removeText(2, 0);
            case 9:
                x.clearPad();
                Check.type(x, "3:9/1/0=p;3.0+1=");
                return x.readEntries();
            default: return x.restore();
        }
    }

    /** Promises 16 and 17. */
    private static void keepAndRestore() {
        Carousel x = new Carousel();
        Check.due("no snapshot", x.restore(), -5);
        Check.due("keep", x.keep(), 0);
        Check.due("keep is no act", x.count(9), 0);
        Check.due("restore of a state without texts", x.restore(), 0);
        Check.due("restore is an act, even of the same state", x.count(9), 1);
        x.addText(0, 10, 1, 0, 3);
        x.addText(3, 10, 1, 0, 3);
        x.addCaption(0, 0, 1, 1);
        x.enter(20, 100, 300);
        x.touch(0);
        x.setTurning(9);
        x.turn(true);
        List<String> kept = Look.atState(x);
        Check.due("keep in place of the one that was", x.keep(), 2);
        x.removeText(0, 0);
        x.setTurning(10);
        x.enter(21, 101, 301);
        x.turn(true);
        List<String> before = Look.atState(x);
        Check.due("restore", x.restore(), 2);
        Check.same("everything is restored", Look.atState(x), kept);
        x.addText(0, 11, 1, 0, 3);
        Check.due("it stays", x.restore(), 2);
        Check.same("what came later did not change the snapshot", Look.atState(x), kept);
        x.undo();
        x.undo();
        Check.due("undo of restore", x.undo(), 1);
        Check.same("restore is undone", Look.atState(x), before);
        Check.due("undo leaves the snapshot", x.restore(), 2);
        Check.same("everything is restored", Look.atState(x), kept);
    }

    private static void whatIsNoPartOfAState() {
        Carousel x = new Carousel();
        x.keep();
        x.turn(true);
        Check.type(x, "0:0/1/0=a");
        x.readEntries();
        x.turn(true);
        Check.due("restore", x.restore(), 0);
        Check.due("the pad stays", x.count(10), 9);
        Check.due("the history stays", x.count(9), 3);
        Check.due("the refusal stays", x.refusal(1), -2);
        x.undo();
        x.undo();
        x.undo();
        Check.due("the pad stays", x.count(10), 9);
        Check.due("the refusal stays", x.refusal(0), 0);
        Check.due("the snapshot stays", x.restore(), 0);
    }

    /** What tells, and what fails, is no act and changes nothing. */
    private static void whatIsNoAct() {
        Carousel x = new Carousel();
        x.addText(0, 60, 6, 3, 7);
        x.addText(0, 50, 1, 2, 8);
        x.addCaption(0, 0, 3, 1);
        x.addCaption(0, 0, 3, 1);
        x.addCaption(0, 0, 3, 1);
        x.enter(10, 30, 2);
        List<String> before = Look.atState(x);
        x.round(10, 100, 5000);
        x.unmet(10);
        x.shown(0, 10);
        x.ages(0, 0, 2);
        x.keep();
        x.clearPad();
        x.type('0');
        x.readEntries();
        Check.type(x, ".0+1=p");
        x.readEntries();
        x.touch(0);
        x.touch(3);
        x.read();
        x.setTurning(5);
        x.setTurning(-5);
        x.setFacts(0, 0, 2);
        x.setFacts(0, 0, 7);
        x.addCaption(0, 0, 3, 1);
        x.addText(0, 3, 4, 0, 1);
        x.removeText(1, 0);
        x.enter(10, 29, 1);
        Check.same("nothing has changed", Look.atState(x), before);
        Check.due("4 states", x.count(9), 4);
        x.undo();
        Check.due("the latest act was enter", x.visitor(0), -5);
    }
}
