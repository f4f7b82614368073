import java.util.List;
import java.util.function.Consumer;
import java.util.function.ToIntFunction;

/** The sentences on the history, and promises 15 to 17. */
final class HistorySentences extends Sentences {
    private HistorySentences() {
    }

    /** A row of acts that each leave another number of seconds as the turning time. */
    private static Consumer<Carousel> turningTimes(int... times) {
        return x -> {
            for (int time : times) {
                x.setTurning(time);
            }
        };
    }

    // ---- the history

    @Holds("History: A history of at most 4 states is kept")
    static void atMost4StatesAreKept() {
        due("count(9) at first", new Carousel().count(9), 0);
        due("count(9) after 1 act", after(turningTimes(11)).count(9), 1);
        due("count(9) after 3 acts", after(turningTimes(11, 12, 13)).count(9), 3);
        due("count(9) after 4 acts", after(turningTimes(11, 12, 13, 14)).count(9), 4);
        due("count(9) after 5 acts", after(turningTimes(11, 12, 13, 14, 15)).count(9), 4);
        due("count(9) after 9 acts", after(turningTimes(11, 12, 13, 14, 15, 16, 17, 18, 19)).count(9), 4);
    }

    @Holds("History: when one more is recorded, the oldest one is dropped")
    static void theOldestStateIsDropped() {
        Carousel four = after(turningTimes(11, 12, 13, 14));
        for (int time : new int[] {13, 12, 11, 5}) {
            four.undo();
            due("the turning time after undo()", four.count(3), time);
        }
        due("undo() of no more", four.undo(), NONE);
        Carousel five = after(turningTimes(11, 12, 13, 14, 15));
        for (int time : new int[] {14, 13, 12, 11}) {
            five.undo();
            due("the turning time after undo()", five.count(3), time);
        }
        due("undo() of the one that was dropped", five.undo(), NONE);
        due("the turning time", five.count(3), 11);
    }

    @Holds("History: when one more is recorded, the oldest one is dropped")
    static void theOldestStateIsDroppedTimeAndAgain() {
        Carousel x = new Carousel();
        for (int time = 11; time <= 60; time++) {
            x.setTurning(time);
            if (time % 7 == 0) {
                x.undo();
                due("the turning time after undo()", x.count(3), time - 1);
                x.setTurning(time);
            }
        }
        for (int time = 59; time >= 56; time--) {
            x.undo();
            due("the turning time after undo()", x.count(3), time);
        }
        due("undo() of no more", x.undo(), NONE);
    }

    @Holds({"History: undo() removes and restores the latest one",
        "Promise 15: Removes and restores the latest state of the history."})
    static void undoRemovesAndRestoresTheLatestState() {
        Carousel x = after(turningTimes(11, 12));
        x.undo();
        due("the turning time", x.count(3), 11);
        due("count(9)", x.count(9), 1);
        x.setTurning(13);
        due("count(9)", x.count(9), 2);
        x.undo();
        due("the turning time", x.count(3), 11);
        x.undo();
        due("the turning time", x.count(3), 5);
        due("count(9)", x.count(9), 0);
    }

    @Holds("History: undo() removes and restores the latest one")
    static void undoRestoresTheWholeState() {
        Carousel x = after(Sentences::lived);
        List<String> before = Look.atState(x);
        x.removeText(0, 0);
        x.enter(99, 400, 9999);
        x.turn(false);
        x.read();
        for (int times = 0; times < 4; times++) {
            x.undo();
        }
        Check.same("four acts undone", Look.atState(x), before);
    }

    @Holds("Promise 15: Returns the number of states that are left")
    static void undoTellsHowManyStatesAreLeft() {
        Carousel x = after(Sentences::lived);
        for (int left = 3; left >= 0; left--) {
            due("undo()", x.undo(), left);
            due("count(9)", x.count(9), left);
        }
    }

    @Holds("Promise 15: NONE if the history is empty")
    static void undoOfAnEmptyHistoryIsNone() {
        refused("undo() of a new carousel", Sentences::nothing, Carousel::undo, NONE);
        refused("undo() when all is undone", x -> {
            lived(x);
            for (int times = 0; times < 4; times++) {
                x.undo();
            }
        }, Carousel::undo, NONE);
        Carousel x = new Carousel();
        x.undo();
        x.undo();
        x.turn(true);
        due("count(9)", x.count(9), 1);
        due("undo()", x.undo(), 0);
    }

    // ---- what records

    @Holds("History: Each call of a method that is described as an act, and returns no error and not NONE, records")
    static void anActOfEachMethodRecordsOneState() {
        Carousel x = new Carousel();
        records(x, "addText", y -> y.addText(0, 60, 10, 0, 7));
        records(x, "setFacts", y -> y.setFacts(0, 0, 15));
        records(x, "enter", y -> y.enter(20, 60, 1000));
        records(x, "read", Carousel::read);
        records(x, "addCaption", y -> y.addCaption(0, 0, 1, 1));
        records(x, "touch", y -> y.touch(0));
        records(x, "turn", y -> y.turn(true));
        records(x, "setTurning", y -> y.setTurning(0));
        x.keep();
        records(x, "removeText", y -> y.removeText(0, 0));
        records(x, "restore", Carousel::restore);
        Check.type(x, "0:1/1/0=a;0.1+1=");
        records(x, "readEntries", Carousel::readEntries);
    }

    /** An act at an empty history, which is emptied so that the count never stops at 4. */
    private static void records(Carousel x, String name, ToIntFunction<Carousel> act) {
        due("count(9) ahead of " + name, x.count(9), 0);
        Check.holds(name + " is done", act.applyAsInt(x) >= 0);
        due("count(9) after " + name, x.count(9), 1);
        due("undo() of " + name, x.undo(), 0);
        act.applyAsInt(x);
        // Four acts more and four times undo() leave an empty history and the state as it is.
        int turning = x.count(3);
        for (int times = 0; times < 4; times++) {
            x.setTurning(30 + times);
        }
        for (int times = 0; times < 4; times++) {
            x.undo();
        }
        due("the turning time", x.count(3), turning);
    }

    @Holds("History: and returns no error and not NONE, records the state that was before it")
    static void aCallThatReturnsAnErrorOrNoneRecordsNothing() {
        Carousel x = new Carousel();
        x.addText(0, 60, 10, 0, 7);
        x.addCaption(0, 0, 1, 1);
        due("addText", x.addText(8, 1, 1, 0, 1), UNKNOWN);
        due("removeText", x.removeText(0, 1), UNKNOWN);
        due("setFacts", x.setFacts(0, 0, 2), NOT_POSSIBLE);
        due("setFacts", x.setFacts(0, 0, 7), NONE);
        due("addCaption", x.addCaption(0, 0, 31, 1), BAD_VALUE);
        due("readEntries", x.readEntries(), -100);
        Check.entries(x, "1.0+1=", NOT_POSSIBLE);
        due("enter", x.enter(3, 60, 1000), BAD_VALUE);
        due("touch", x.touch(0), NOT_POSSIBLE);
        due("read", x.read(), NOT_POSSIBLE);
        due("setTurning", x.setTurning(5), NONE);
        due("setTurning", x.setTurning(61), BAD_VALUE);
        due("restore", x.restore(), NONE);
        due("count(9)", x.count(9), 2);
        x.undo();
        due("the captions after undo()", x.count(1), 0);
    }

    @Holds("History: Each call of a method that is described as an act")
    static void whatIsNoActRecordsNothing() {
        changesNothing("refusal", Sentences::lived, x -> x.refusal(0), 0);
        changesNothing("text", Sentences::lived, x -> x.text(0, 0, 4), 7);
        changesNothing("caption", Sentences::lived, x -> x.caption(0, 0, 0, 0), 5);
        changesNothing("visitor", Sentences::lived, x -> x.visitor(5), 0);
        changesNothing("shown", Sentences::lived, x -> x.shown(0, 99), 1);
        changesNothing("unmet", Sentences::lived, x -> x.unmet(99), 6);
        changesNothing("round", Sentences::lived, x -> x.round(99, 400, 9999), 56 | 4097);
        changesNothing("ages", Sentences::lived, x -> x.ages(0, 0, 2), 13);
        changesNothing("count", Sentences::lived, x -> x.count(8), 7);
        Carousel x = new Carousel();
        x.turn(true);
        x.type('0');
        x.clearPad();
        x.keep();
        due("count(9) after type, clearPad and keep", x.count(9), 1);
    }

    // ---- the snapshot

    @Holds({"History: There is one snapshot, empty at first", "Promise 17: NONE if there is no snapshot"})
    static void thereIsNoSnapshotAtFirst() {
        refused("restore() of a new carousel", Sentences::nothing, Carousel::restore, NONE);
        refused("restore() after acts", turningTimes(11, 12, 13, 14, 15), Carousel::restore, NONE);
    }

    @Holds({"History: There is one snapshot", "Promise 16: in place of the one that was"})
    static void aSnapshotTakesThePlaceOfTheOneThatWas() {
        Carousel x = new Carousel();
        x.keep();
        x.setTurning(11);
        x.keep();
        x.setTurning(12);
        x.restore();
        due("the turning time", x.count(3), 11);
        x.restore();
        due("the turning time", x.count(3), 11);
    }

    @Holds("Promise 16: Takes a snapshot of the state")
    static void keepTakesTheStateAsItIs() {
        Carousel x = after(Sentences::lived);
        List<String> kept = Look.atState(x);
        x.keep();
        Check.same("the state after keep()", Look.atState(x), kept);
        x.removeText(7, 0);
        x.setFacts(0, 1, 1);
        x.addCaption(0, 0, 1, 0);
        x.enter(99, 400, 9999);
        x.turn(true);
        x.restore();
        Check.same("the state that was kept", Look.atState(x), kept);
    }

    @Holds("Promise 16: Returns the number of texts")
    static void keepTellsTheNumberOfTexts() {
        due("keep() of none", new Carousel().keep(), 0);
        due("keep() of 3", after(Sentences::lived).keep(), 3);
        Carousel x = new Carousel();
        for (int exhibit = 0; exhibit < 8; exhibit++) {
            for (int text = 0; text < 5; text++) {
                x.addText(exhibit, 1, 1, 0, 1);
                due("keep()", x.keep(), exhibit * 5 + text + 1);
            }
        }
    }

    @Holds("Promise 17: Restores the state of the snapshot, which stays.")
    static void theSnapshotStays() {
        Carousel x = after(Sentences::lived);
        due("restore()", x.restore(), 3);
        List<String> kept = Look.atState(x);
        x.setFacts(0, 0, 3);
        x.removeText(0, 1);
        x.enter(20, 60, 1000);
        due("restore()", x.restore(), 3);
        Check.same("the snapshot", Look.atState(x), kept);
        x.undo();
        x.turn(true);
        due("restore()", x.restore(), 3);
        Check.same("the snapshot", Look.atState(x), kept);
    }

    @Holds("Promise 17: This is an act.")
    static void restoreIsAnAct() {
        isAnAct("restore()", x -> {
            x.keep();
            x.addText(0, 1, 1, 0, 1);
        }, Carousel::restore);
        isAnAct("restore() of the same state", Carousel::keep, Carousel::restore);
        isAnAct("restore()", Sentences::lived, Carousel::restore);
    }

    @Holds("Promise 17: Returns the number of texts then")
    static void restoreTellsTheNumberOfTextsThen() {
        Carousel x = new Carousel();
        x.keep();
        x.addText(0, 1, 1, 0, 1);
        due("restore() of none", x.restore(), 0);
        x.addText(0, 1, 1, 0, 1);
        x.addText(7, 1, 1, 0, 1);
        x.keep();
        x.removeText(0, 0);
        due("restore() of 2", x.restore(), 2);
        due("count(0)", x.count(0), 2);
    }

    // ---- what a state is

    @Holds("History: A state is everything but the pad")
    static void thePadIsNoPartOfAState() {
        Carousel x = new Carousel();
        x.keep();
        Check.type(x, "0:1/1/0=a");
        x.turn(true);
        Check.type(x, ";0.0+1=");
        x.undo();
        due("count(10) after undo()", x.count(10), 16);
        x.restore();
        due("count(10) after restore()", x.count(10), 16);
        due("readEntries()", x.readEntries(), 2);
        x.clearPad();
        x.undo();
        due("count(10) of an emptied pad", x.count(10), 0);
        x.restore();
        due("count(10) of an emptied pad", x.count(10), 0);
    }

    @Holds("History: A state is everything but the pad, the history")
    static void theHistoryIsNoPartOfAState() {
        Carousel x = after(turningTimes(11, 12));
        x.keep();
        x.setTurning(13);
        due("restore()", x.restore(), 0);
        due("count(9) after restore()", x.count(9), 4);
        x.undo();
        due("the turning time", x.count(3), 13);
        x.undo();
        due("the turning time", x.count(3), 12);
        due("count(9)", x.count(9), 2);
    }

    @Holds("History: A state is everything but the pad, the history, the snapshot")
    static void theSnapshotIsNoPartOfAState() {
        Carousel x = after(turningTimes(11));
        x.keep();
        x.setTurning(12);
        x.undo();
        x.undo();
        due("the turning time", x.count(3), 5);
        due("restore() of a snapshot that was taken later", x.restore(), 0);
        due("the turning time", x.count(3), 11);
        x.setTurning(13);
        x.keep();
        x.undo();
        x.undo();
        x.restore();
        due("the turning time", x.count(3), 13);
    }

    @Holds("History: and the latest refusal")
    static void theLatestRefusalIsNoPartOfAState() {
        Carousel x = new Carousel();
        x.keep();
        x.turn(true);
        Check.entries(x, "0:1/1/0=a;0.0+1=b", NOT_POSSIBLE);
        x.undo();
        due("refusal(0) after undo()", x.refusal(0), 1);
        due("refusal(1) after undo()", x.refusal(1), NOT_POSSIBLE);
        x.restore();
        due("refusal(0) after restore()", x.refusal(0), 1);
        due("refusal(1) after restore()", x.refusal(1), NOT_POSSIBLE);
    }

    @Holds("History: A state is everything but")
    static void textsAndCaptionsArePartOfAState() {
        partOfAState(x -> x.addText(1, 9, 1, 0, 1), x -> x.text(1, 0, 0));
        partOfAState(x -> x.removeText(7, 0), x -> x.text(7, 0, 0));
        partOfAState(x -> x.setFacts(0, 0, 3), x -> x.text(0, 0, 3));
        partOfAState(x -> x.addCaption(0, 1, 1, 8), x -> x.text(0, 1, 5));
        partOfAState(x -> x.addCaption(0, 1, 1, 8), x -> x.caption(0, 1, 0, 0));
    }

    @Holds("History: A state is everything but")
    static void theVisitorIsPartOfAState() {
        for (int what = 0; what < 5; what++) {
            int asked = what;
            partOfAState(x -> x.enter(12, 101, 501), x -> x.visitor(asked));
        }
        Carousel x = new Carousel();
        x.keep();
        x.enter(12, 101, 501);
        x.undo();
        due("visitor(0) when nobody was there", x.visitor(0), NONE);
        x.enter(12, 101, 501);
        x.restore();
        due("visitor(0) when nobody was there", x.visitor(0), NONE);
        due("read()", x.read(), NOT_POSSIBLE);
    }

    @Holds("History: A state is everything but")
    static void whereTheCarouselStandsAndTheTurningTimeArePartOfAState() {
        partOfAState(x -> x.turn(true), x -> x.count(2));
        partOfAState(x -> x.turn(true), x -> x.visitor(2));
        partOfAState(x -> x.setTurning(60), x -> x.count(3));
    }

    @Holds("History: A state is everything but")
    static void whatIsCountedIsPartOfAState() {
        partOfAState(x -> x.enter(12, 101, 501), x -> x.count(4));
        partOfAState(x -> x.touch(0), x -> x.count(6));
        partOfAState(x -> x.touch(0), x -> x.caption(0, 0, 0, 2));
        Consumer<Carousel> atExhibit7 = x -> {
            lived(x);
            x.turn(false);
        };
        partOfAState(atExhibit7, Carousel::read, x -> x.count(5));
        partOfAState(atExhibit7, Carousel::read, x -> x.count(7));
        partOfAState(atExhibit7, Carousel::read, x -> x.text(7, 0, 6));
        partOfAState(atExhibit7, Carousel::read, x -> x.visitor(3));
    }

    private static void partOfAState(ToIntFunction<Carousel> act, ToIntFunction<Carousel> told) {
        partOfAState(Sentences::lived, act, told);
    }

    /** What an act changes comes back by undo() and by restore(). */
    private static void partOfAState(Consumer<Carousel> story, ToIntFunction<Carousel> act,
            ToIntFunction<Carousel> told) {
        Carousel x = after(story);
        x.keep();
        int before = told.applyAsInt(x);
        act.applyAsInt(x);
        int changed = told.applyAsInt(x);
        Check.holds("the act changes what is told from " + before, before != changed);
        x.undo();
        due("what is told after undo()", told.applyAsInt(x), before);
        act.applyAsInt(x);
        due("what is told when it is done again", told.applyAsInt(x), changed);
        x.restore();
        due("what is told after restore()", told.applyAsInt(x), before);
        x.undo();
        due("what is told after undo() of restore()", told.applyAsInt(x), changed);
    }
}
