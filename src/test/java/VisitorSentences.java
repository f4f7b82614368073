import java.util.function.Consumer;

/** The sentences on what a visitor is shown, and promises 8 to 12. */
final class VisitorSentences extends Sentences {
    private VisitorSentences() {
    }

    /** A text of 60 words with the facts a, b and c, and a caption of 10 words that tells a. */
    private static void captioned(Carousel x) {
        x.addText(0, 60, 10, 0, 7);
        x.addCaption(0, 0, 10, 1);
    }

    /** The same, and a visitor who reads a word in a second and has some seconds. */
    private static Consumer<Carousel> captionedFor(int seconds) {
        return x -> {
            captioned(x);
            x.enter(20, 60, seconds);
        };
    }

    /** A text of 60 words with the facts a, b and c, without a caption, and such a visitor. */
    private static Consumer<Carousel> plainFor(int seconds) {
        return x -> {
            x.addText(0, 60, 10, 0, 7);
            x.enter(20, 60, seconds);
        };
    }

    // ---- where the carousel stands, and who is there

    @Holds("What a visitor is shown: The carousel stands at an exhibit (0 at first)")
    static void theCarouselStandsAtExhibit0AtFirst() {
        due("count(2)", new Carousel().count(2), 0);
        Carousel x = new Carousel();
        x.addText(0, 60, 10, 0, 7);
        due("enter", x.enter(20, 60, 100), 0);
        due("turn(true)", new Carousel().turn(true), 1);
    }

    @Holds("What a visitor is shown: There is a visitor or none (none at first)")
    static void thereIsNoVisitorAtFirst() {
        Carousel x = after(Sentences::everywhere);
        Check.visitor(x, NONE, NONE, NONE, NONE, NONE, NONE);
        due("count(4)", x.count(4), 0);
        due("touch(0)", x.touch(0), NOT_POSSIBLE);
        due("read()", x.read(), NOT_POSSIBLE);
        due("turn(true)", x.turn(true), 1);
        Check.visitor(x, NONE, NONE, NONE, NONE, NONE, NONE);
    }

    @Holds({"What a visitor is shown: with an age (4 to 99)", "Promise 8: `age`: 4 to 99", "Promise 8: BAD_VALUE"})
    static void aVisitorsAgeIs4To99() {
        range("age", Sentences::lived, (x, age) -> x.enter(age, 100, 100), 4, 99, BAD_VALUE);
        range("age", Sentences::nothing, (x, age) -> x.enter(age, 100, 100), 4, 99, BAD_VALUE);
    }

    @Holds({"What a visitor is shown: a pace (30 to 400 words a minute)", "Promise 8: `pace`: 30 to 400",
        "Promise 8: BAD_VALUE"})
    static void aVisitorsPaceIs30To400() {
        range("pace", Sentences::lived, (x, pace) -> x.enter(50, pace, 100), 30, 400, BAD_VALUE);
        refused("pace 0", Sentences::lived, x -> x.enter(50, 0, 100), BAD_VALUE);
    }

    @Holds({"What a visitor is shown: seconds that are left", "Promise 8: `seconds`: 1 to 9999",
        "Promise 8: BAD_VALUE"})
    static void aVisitorsSecondsAre1To9999() {
        range("seconds", Sentences::lived, (x, seconds) -> x.enter(50, 100, seconds), 1, 9999, BAD_VALUE);
    }

    @Holds("What a visitor is shown: and a set of facts that were learned (empty at first)")
    static void aVisitorHasLearnedNothingAtFirst() {
        Carousel x = after(plainFor(100));
        due("visitor(3)", x.visitor(3), 0);
        due("visitor(4)", x.visitor(4), 0);
        x.read();
        due("visitor(3)", x.visitor(3), 7);
        x.enter(20, 60, 100);
        due("visitor(3) of the next one", x.visitor(3), 0);
        due("visitor(4) of the next one", x.visitor(4), 0);
    }

    // ---- promise 8

    @Holds("Promise 8: A visitor comes")
    static void aVisitorComesWithTheseNumbers() {
        Carousel x = new Carousel();
        x.enter(4, 30, 1);
        Check.visitor(x, 4, 30, 1, 0, 0, NONE);
        x.enter(99, 400, 9999);
        Check.visitor(x, 99, 400, 9999, 0, 0, NONE);
        due("count(4)", x.count(4), 2);
    }

    @Holds("Promise 8: one who was there leaves")
    static void whoWasThereLeavesWithAllThatWasLearned() {
        Carousel x = after(plainFor(100));
        x.read();
        x.enter(21, 61, 101);
        Check.visitor(x, 21, 61, 101, 0, 0, 0);
        due("read()", x.read(), 3);
        due("text(0, 0, 6)", x.text(0, 0, 6), 2);
        due("where the carousel stands", x.count(2), 0);
    }

    @Holds("Promise 8: This is an act.")
    static void enterIsAnAct() {
        isAnAct("enter, the first visitor", Sentences::nothing, x -> x.enter(4, 30, 1));
        isAnAct("enter, the next visitor", plainFor(100), x -> x.enter(99, 400, 9999));
        isAnAct("enter, the like of who is there", plainFor(100), x -> x.enter(20, 60, 100));
        isAnAct("enter", Sentences::lived, x -> x.enter(4, 30, 1));
    }

    @Holds("Promise 8: Returns the number of the text that is shown (NONE is no answer here: 9 without one)")
    static void enterTellsTheTextOr9() {
        Carousel x = new Carousel();
        due("enter without a text", x.enter(20, 60, 100), 9);
        for (int text = 0; text < 5; text++) {
            x.addText(0, 20 + 20 * text, 1, 0, 1);
        }
        for (int text = 0; text < 5; text++) {
            due("enter at the reading age of " + text, x.enter(14 + 10 * text, 60, 100), text);
        }
        x.turn(true);
        due("enter where no text is", x.enter(20, 60, 100), 9);
    }

    // ---- how long it takes

    private static void takes(int words, int pace, int seconds) {
        Carousel x = new Carousel();
        x.addText(0, words, 1, 0, 1);
        x.enter(99, pace, seconds);
        due("read() of " + words + " words at " + pace + " in " + seconds + " s", x.read(), 1);
        due("visitor(2)", x.visitor(2), 0);
        if (seconds > 1) {
            x.enter(99, pace, seconds - 1);
            due("read() of " + words + " words at " + pace + " in a second less", x.read(), NONE);
        }
        x.enter(99, pace, 9999);
        x.read();
        due("seconds left of 9999", x.visitor(2), 9999 - seconds);
    }

    private static void captionTakes(int words, int pace, int seconds) {
        Carousel x = new Carousel();
        x.addText(0, 300, 1, 0, 1);
        x.addCaption(0, 0, words, 1);
        x.enter(99, pace, seconds);
        due("touch of " + words + " words at " + pace + " in " + seconds + " s", x.touch(0), 1);
        due("visitor(2)", x.visitor(2), 0);
        if (seconds > 1) {
            x.enter(99, pace, seconds - 1);
            due("touch of " + words + " words at " + pace + " in a second less", x.touch(0), NONE);
        }
    }

    @Holds("What a visitor is shown: A number of words takes 60 * words / pace seconds")
    static void aTextTakes60TimesItsWordsByThePace() {
        takes(60, 60, 60);
        takes(1, 30, 2);
        takes(1, 60, 1);
        takes(300, 30, 600);
        takes(300, 400, 45);
        takes(40, 400, 6);
    }

    @Holds("What a visitor is shown: seconds, rounded up")
    static void theSecondsOfATextAreRoundedUp() {
        takes(1, 400, 1);
        takes(1, 59, 2);
        takes(1, 61, 1);
        takes(2, 61, 2);
        takes(15, 31, 30);
        takes(20, 399, 4);
        takes(20, 400, 3);
        takes(299, 400, 45);
        takes(299, 399, 45);
        takes(300, 399, 46);
    }

    @Holds("What a visitor is shown: seconds, rounded up")
    static void theSecondsOfACaptionAreRoundedUp() {
        captionTakes(1, 400, 1);
        captionTakes(1, 60, 1);
        captionTakes(1, 59, 2);
        captionTakes(30, 30, 60);
        captionTakes(30, 31, 59);
        captionTakes(30, 400, 5);
        captionTakes(20, 400, 3);
        captionTakes(20, 399, 4);
    }

    // ---- which text is shown

    @Holds("What a visitor is shown: of its texts with a reading age not above the age")
    static void aTextIsShownFromItsReadingAgeOn() {
        Carousel x = new Carousel();
        x.addText(0, 20, 1, 0, 1);
        x.addText(0, 40, 1, 0, 1);
        due("shown at the reading age less 1", x.shown(0, 23), 0);
        due("shown at the reading age", x.shown(0, 24), 1);
        due("shown at the reading age and 1", x.shown(0, 25), 1);
        due("enter below it", x.enter(23, 60, 100), 0);
        due("enter at it", x.enter(24, 60, 100), 1);
    }

    @Holds("What a visitor is shown: of its texts with a reading age not above the age")
    static void readingAgesAtTheEndsOfTheAges() {
        Carousel x = new Carousel();
        x.addText(0, 1, 1, 0, 1);
        x.addText(0, 2, 1, 0, 1);
        x.addText(0, 190, 1, 0, 1);
        x.addText(0, 192, 1, 0, 1);
        due("age 4, reading age 4", x.shown(0, 4), 0);
        due("age 5, reading age 5", x.shown(0, 5), 1);
        due("age 98", x.shown(0, 98), 1);
        due("age 99, reading age 99, not 100", x.shown(0, 99), 2);
    }

    @Holds("What a visitor is shown: the one with the greatest reading age")
    static void theGreatestReadingAgeThatFitsIsShown() {
        Carousel x = new Carousel();
        x.addText(0, 40, 1, 0, 1);
        x.addText(0, 60, 1, 0, 1);
        x.addText(0, 20, 1, 0, 1);
        x.addText(0, 62, 1, 0, 1);
        due("age 14", x.shown(0, 14), 2);
        due("age 24", x.shown(0, 24), 0);
        due("age 34", x.shown(0, 34), 1);
        due("age 35", x.shown(0, 35), 3);
        due("age 99", x.shown(0, 99), 3);
    }

    @Holds("What a visitor is shown: the one with the greatest reading age")
    static void theGreatestReadingAgeComesBeforeTheFewestWords() {
        Carousel x = new Carousel();
        x.addText(0, 20, 1, 0, 1);
        x.addText(0, 22, 1, 0, 1);
        due("more words, but a greater reading age", x.shown(0, 99), 1);
    }

    @Holds("What a visitor is shown: of several the one with the fewest words")
    static void ofEqualReadingAgesTheFewestWordsAreShown() {
        Carousel x = new Carousel();
        x.addText(0, 21, 1, 0, 1);
        x.addText(0, 20, 1, 0, 1);
        Check.text(x, 0, 0, 21, 1, 0, 1, 14);
        Check.text(x, 0, 1, 20, 1, 0, 1, 14);
        due("the later one has fewer", x.shown(0, 14), 1);
        Carousel y = new Carousel();
        y.addText(0, 20, 1, 0, 1);
        y.addText(0, 21, 1, 0, 1);
        due("the earlier one has fewer", y.shown(0, 14), 0);
        y.addText(0, 10, 1, 2, 1);
        due("the reading age of 10 words", y.text(0, 2, 4), 15);
        y.addText(0, 11, 1, 3, 1);
        due("the reading age of 11 words", y.text(0, 3, 4), 17);
        y.addText(0, 26, 1, 0, 1);
        due("the reading age of 26 words", y.text(0, 4, 4), 17);
        due("in the middle", y.shown(0, 99), 3);
    }

    @Holds("What a visitor is shown: of these the lowest")
    static void ofEqualWordsTheLowestIsShown() {
        Carousel x = new Carousel();
        x.addText(0, 21, 1, 0, 1);
        x.addText(0, 20, 1, 0, 1);
        x.addText(0, 20, 1, 0, 2);
        x.addText(0, 20, 1, 0, 4);
        due("shown", x.shown(0, 14), 1);
        due("shown", x.shown(0, 99), 1);
        x.removeText(0, 1);
        due("shown", x.shown(0, 99), 1);
    }

    @Holds("What a visitor is shown: without such a text the one with the least reading age")
    static void whereNoneFitsTheLeastReadingAgeIsShown() {
        Carousel x = new Carousel();
        x.addText(0, 60, 1, 0, 1);
        x.addText(0, 20, 1, 0, 1);
        x.addText(0, 40, 1, 0, 1);
        due("age 4", x.shown(0, 4), 1);
        due("age 13, one below the least", x.shown(0, 13), 1);
        x.removeText(0, 1);
        due("age 4", x.shown(0, 4), 1);
        due("age 23", x.shown(0, 23), 1);
        x.removeText(0, 1);
        due("age 33", x.shown(0, 33), 0);
    }

    @Holds("What a visitor is shown: of several the lowest")
    static void whereNoneFitsOfEqualReadingAgesTheLowestIsShown() {
        Carousel x = new Carousel();
        x.addText(0, 40, 1, 0, 1);
        x.addText(0, 21, 1, 0, 1);
        x.addText(0, 20, 1, 0, 1);
        due("the lowest, though not of the fewest words", x.shown(0, 13), 1);
        due("the fewest words, where they fit", x.shown(0, 14), 2);
    }

    @Holds("What a visitor is shown: none if the exhibit has no text")
    static void anExhibitWithoutATextShowsNone() {
        Carousel x = new Carousel();
        x.addText(1, 20, 1, 0, 1);
        x.addText(7, 20, 1, 0, 1);
        x.enter(20, 60, 100);
        due("shown", x.shown(0, 20), NONE);
        due("visitor(5)", x.visitor(5), NONE);
        due("touch(0)", x.touch(0), NOT_POSSIBLE);
        due("read()", x.read(), NOT_POSSIBLE);
        x.addText(0, 20, 1, 0, 1);
        due("visitor(5)", x.visitor(5), 0);
        x.removeText(0, 0);
        due("visitor(5) when it was removed", x.visitor(5), NONE);
    }

    // ---- to touch

    @Holds({"What a visitor is shown: the visitor reads the caption, if the seconds that are left suffice for it",
        "Promise 9: NONE if the seconds do not suffice for the caption"})
    static void aCaptionIsReadIfTheSecondsSuffice() {
        due("touch in just the time", after(captionedFor(10)).touch(0), 1);
        refused("touch in a second less", captionedFor(9), x -> x.touch(0), NONE);
        refused("touch in a second", captionedFor(1), x -> x.touch(0), NONE);
        refused("touch in no time", x -> {
            captioned(x);
            x.enter(20, 60, 5);
            x.turn(true);
            x.turn(false);
        }, x -> x.touch(0), NONE);
    }

    @Holds("What a visitor is shown: (they become less by that)")
    static void theSecondsBecomeLessByTheCaption() {
        Carousel x = after(captionedFor(30));
        x.touch(0);
        due("visitor(2)", x.visitor(2), 20);
        x.touch(0);
        due("visitor(2)", x.visitor(2), 10);
        x.touch(0);
        due("visitor(2)", x.visitor(2), 0);
        due("touch(0)", x.touch(0), NONE);
    }

    @Holds("What a visitor is shown: and learns its facts")
    static void aCaptionsFactsAreLearned() {
        Carousel x = after(captionedFor(60));
        x.addCaption(0, 0, 10, 5);
        x.addCaption(0, 0, 10, 0);
        due("a caption without facts", x.touch(2), 0);
        due("visitor(3)", x.visitor(3), 0);
        due("a caption that tells a", x.touch(0), 1);
        due("visitor(3)", x.visitor(3), 1);
        due("a caption that tells a and c", x.touch(1), 1);
        due("visitor(3)", x.visitor(3), 5);
    }

    @Holds("What a visitor is shown: and read as a whole, if the seconds that are left then suffice for it")
    static void theTextIsOpenedIfTheSecondsThatAreLeftThenSuffice() {
        Carousel x = after(captionedFor(70));
        due("touch in just the time", x.touch(0), 3);
        Check.visitor(x, 20, 60, 0, 7, 3, 0);
        due("text(0, 0, 6)", x.text(0, 0, 6), 1);
        Carousel y = after(captionedFor(69));
        due("touch in a second less", y.touch(0), 1);
        Check.visitor(y, 20, 60, 59, 1, 1, 0);
        due("text(0, 0, 6)", y.text(0, 0, 6), 0);
    }

    @Holds("What a visitor is shown: and the text has any fact that was not learned yet")
    static void theTextIsOpenedOnlyForANewFact() {
        Carousel x = after(captionedFor(1000));
        due("two facts that were not learned", x.touch(0), 3);
        due("none that was not learned", x.touch(0), 0);
        due("visitor(2)", x.visitor(2), 1000 - 70 - 10);
        due("text(0, 0, 6)", x.text(0, 0, 6), 1);
        x.setFacts(0, 0, 32775);
        due("one that was not learned", x.touch(0), 1);
        due("visitor(2)", x.visitor(2), 1000 - 70 - 10 - 70);
        due("text(0, 0, 6)", x.text(0, 0, 6), 2);
        x.setFacts(0, 0, 3);
        due("fewer than were learned", x.touch(0), 0);
        due("text(0, 0, 6)", x.text(0, 0, 6), 2);
    }

    @Holds("What a visitor is shown: and the text has any fact that was not learned yet")
    static void whatTheCaptionItselfTellsIsLearnedWhenTheTextIsOpened() {
        Carousel x = after(captionedFor(1000));
        x.addCaption(0, 0, 10, 7);
        due("a caption that tells all", x.touch(1), 3);
        due("visitor(2)", x.visitor(2), 990);
        due("text(0, 0, 6)", x.text(0, 0, 6), 0);
    }

    @Holds("What a visitor is shown: its facts are learned then")
    static void theFactsOfAnOpenedTextAreLearned() {
        Carousel x = after(captionedFor(1000));
        x.touch(0);
        due("visitor(3)", x.visitor(3), 7);
        due("visitor(4)", x.visitor(4), 3);
    }

    @Holds("What a visitor is shown: (Otherwise the text is not opened, and takes no time.)")
    static void aTextThatIsNotOpenedTakesNoTime() {
        Carousel x = after(captionedFor(69));
        x.touch(0);
        due("seconds that do not suffice", x.visitor(2), 59);
        Carousel y = after(captionedFor(1000));
        y.touch(0);
        y.touch(0);
        due("nothing new to learn", y.visitor(2), 920);
        due("count(5)", y.count(5), 1);
    }

    @Holds("What a visitor is shown: Captions and texts count how often they were read so far")
    static void captionsAndTextsCountHowOftenTheyWereRead() {
        Carousel x = after(captionedFor(1000));
        x.addCaption(0, 0, 10, 2);
        x.addText(0, 61, 50, 0, 7);
        x.touch(0);
        x.touch(0);
        x.touch(1);
        x.touch(2);
        due("the first caption", x.caption(0, 0, 0, 2), 2);
        due("the second caption", x.caption(0, 0, 1, 2), 1);
        due("the text", x.text(0, 0, 6), 1);
        due("the text that is not shown", x.text(0, 1, 6), 0);
        x.enter(20, 60, 1000);
        x.touch(1);
        due("the second caption, by another visitor too", x.caption(0, 0, 1, 2), 2);
        due("the text, by another visitor too", x.text(0, 0, 6), 2);
    }

    @Holds("What a visitor is shown: Captions and texts count how often they were read so far")
    static void newTextsAndCaptionsWereNeverReadWhereverTheyStand() {
        Carousel x = after(captionedFor(1000));
        x.touch(0);
        x.removeText(0, 0);
        x.addText(0, 61, 10, 0, 7);
        x.addCaption(0, 0, 11, 1);
        due("a text in the place of one that was read", x.text(0, 0, 6), 0);
        due("a caption in the place of one that was read", x.caption(0, 0, 0, 2), 0);
        due("count(7)", x.count(7), 1);
    }

    // ---- promise 9

    @Holds("Promise 9: The visitor touches a caption of the text that is shown.")
    static void aCaptionOfTheTextThatIsShownIsTouched() {
        Carousel x = new Carousel();
        x.addText(0, 20, 1, 0, 1);
        x.addText(0, 40, 1, 0, 6);
        x.addCaption(0, 0, 1, 1);
        x.addCaption(0, 1, 1, 2);
        x.addCaption(0, 1, 2, 4);
        x.enter(23, 60, 1);
        due("touch(0)", x.touch(0), 1);
        due("touch(1) of a text with one", x.touch(1), UNKNOWN);
        x.enter(24, 60, 2);
        due("touch(1)", x.touch(1), 1);
        due("visitor(3)", x.visitor(3), 4);
        due("visitor(2)", x.visitor(2), 0);
        Check.caption(x, 0, 0, 0, 1, 1, 1);
        Check.caption(x, 0, 1, 0, 1, 2, 0);
        Check.caption(x, 0, 1, 1, 2, 4, 1);
    }

    @Holds("Promise 9: This is an act.")
    static void touchIsAnAct() {
        isAnAct("touch", captionedFor(10), x -> x.touch(0));
        isAnAct("touch that opens the text", captionedFor(70), x -> x.touch(0));
        isAnAct("touch by which nothing is learned", x -> {
            Check.entries(x, "0:9/1/0=a;0.0+1=", 2);
            x.enter(20, 60, 9);
            x.setTurning(0);
        }, x -> x.touch(0));
        isAnAct("touch", Sentences::lived, x -> x.touch(1));
    }

    @Holds("Promise 9: `caption`: a caption of it")
    static void touchTakesACaptionOfTheText() {
        Consumer<Carousel> three = x -> {
            threeCaptions(x);
            x.addText(0, 20, 1, 0, 1);
            x.addCaption(0, 0, 1, 0);
            x.enter(50, 60, 1000);
            for (int turn = 0; turn < 3; turn++) {
                x.turn(true);
            }
        };
        range("touch", three, Carousel::touch, 0, 2, UNKNOWN);
        range("touch", captionedFor(100), Carousel::touch, 0, 0, UNKNOWN);
    }

    @Holds("Promise 9: UNKNOWN")
    static void aTextWithoutCaptionsHasNoneToTouch() {
        refused("touch(0)", plainFor(100), x -> x.touch(0), UNKNOWN);
        refused("touch(0)", plainFor(1), x -> x.touch(0), UNKNOWN);
    }

    @Holds("Promise 9: Returns how many facts are learned by it")
    static void touchTellsHowManyFactsAreLearned() {
        due("a caption's fact", after(captionedFor(69)).touch(0), 1);
        due("a caption's and the text's", after(captionedFor(70)).touch(0), 3);
        Carousel x = after(captionedFor(1000));
        x.touch(0);
        due("what was learned already does not count", x.touch(0), 0);
        x.setFacts(0, 0, ALL_FACTS);
        due("all the others", x.touch(0), 13);
    }

    @Holds("Promise 9: NOT_POSSIBLE if there is no visitor or no text")
    static void touchWithoutAVisitorIsNotPossible() {
        refused("touch(0)", VisitorSentences::captioned, x -> x.touch(0), NOT_POSSIBLE);
        refused("touch(0) of a new carousel", Sentences::nothing, x -> x.touch(0), NOT_POSSIBLE);
    }

    @Holds("Promise 9: NOT_POSSIBLE if there is no visitor or no text")
    static void touchWithoutATextIsNotPossible() {
        refused("touch(0)", x -> {
            captioned(x);
            x.enter(20, 60, 1000);
            x.turn(false);
        }, x -> x.touch(0), NOT_POSSIBLE);
    }

    // ---- promise 10

    @Holds({"What a visitor is shown: To read without a touch (of a text without captions) is possible likewise",
        "Promise 10: The visitor reads the text that is shown."})
    static void aTextWithoutCaptionsIsReadWithoutATouch() {
        Carousel x = after(plainFor(100));
        due("read()", x.read(), 3);
        Check.visitor(x, 20, 60, 40, 7, 3, 0);
        Check.text(x, 0, 0, 60, 10, 0, 7, 7, 0, 1);
    }

    @Holds("What a visitor is shown: the text alone")
    static void toReadIsToReadTheTextAlone() {
        Carousel x = after(captionedFor(1000));
        x.addText(0, 60, 1, 0, 24);
        x.enter(99, 60, 60);
        due("read()", x.read(), 2);
        due("the seconds of the text alone", x.visitor(2), 0);
        due("count(6)", x.count(6), 0);
        due("the other text", x.text(0, 0, 6), 0);
    }

    @Holds("Promise 10: This is an act.")
    static void readIsAnAct() {
        isAnAct("read()", plainFor(60), Carousel::read);
        isAnAct("read()", x -> {
            lived(x);
            x.turn(false);
        }, Carousel::read);
    }

    @Holds("Promise 10: Returns how many facts are learned by it")
    static void readTellsHowManyFactsAreLearned() {
        Carousel x = after(plainFor(1000));
        due("three", x.read(), 3);
        x.setFacts(0, 0, 14);
        due("one of three", x.read(), 1);
        x.setFacts(0, 0, ALL_FACTS);
        due("twelve of sixteen", x.read(), 12);
    }

    @Holds("Promise 10: NOT_POSSIBLE if there is no visitor or no text, or the text has captions")
    static void readWithoutAVisitorIsNotPossible() {
        refused("read()", x -> x.addText(0, 60, 10, 0, 7), Carousel::read, NOT_POSSIBLE);
        refused("read() of a new carousel", Sentences::nothing, Carousel::read, NOT_POSSIBLE);
    }

    @Holds("Promise 10: NOT_POSSIBLE if there is no visitor or no text, or the text has captions")
    static void readWithoutATextIsNotPossible() {
        refused("read()", x -> {
            x.addText(0, 60, 10, 0, 7);
            x.enter(20, 60, 1000);
            x.turn(true);
        }, Carousel::read, NOT_POSSIBLE);
    }

    @Holds("Promise 10: or the text has captions")
    static void readOfATextWithCaptionsIsNotPossible() {
        refused("read() of a text with one caption", captionedFor(1000), Carousel::read, NOT_POSSIBLE);
        Carousel x = after(captionedFor(1000));
        x.removeText(0, 0);
        x.addText(0, 60, 10, 0, 7);
        due("read() of one in its place", x.read(), 3);
    }

    @Holds("Promise 10: NONE if the seconds do not suffice")
    static void readIsNoneIfTheSecondsDoNotSuffice() {
        due("read() in just the time", after(plainFor(60)).read(), 3);
        refused("read() in a second less", plainFor(59), Carousel::read, NONE);
        refused("read() in no time", x -> {
            x.addText(0, 1, 1, 0, 1);
            x.enter(20, 400, 10);
            x.turn(true);
            x.turn(false);
        }, Carousel::read, NONE);
    }

    @Holds("Promise 10: or it has no fact that was not learned yet")
    static void readIsNoneIfThereIsNoNewFact() {
        Consumer<Carousel> story = x -> {
            x.addText(0, 60, 10, 0, 7);
            x.enter(20, 60, 1000);
            x.read();
        };
        refused("read() again", story, Carousel::read, NONE);
        refused("read() of fewer facts", x -> {
            story.accept(x);
            x.setFacts(0, 0, 5);
        }, Carousel::read, NONE);
    }

    // ---- promise 11

    @Holds({"What a visitor is shown: When the carousel is turned, it stands at the next exhibit (0 behind 7)",
        "Promise 11: Turns the carousel.", "Promise 11: `forward`: whether to the next exhibit"})
    static void forwardTheNextExhibitComesAnd0Behind7() {
        Carousel x = new Carousel();
        for (int exhibit = 1; exhibit <= 7; exhibit++) {
            due("turn(true)", x.turn(true), exhibit);
        }
        due("turn(true) at 7", x.turn(true), 0);
        due("count(2)", x.count(2), 0);
    }

    @Holds({"What a visitor is shown: or the one ahead", "Promise 11: otherwise to the one ahead"})
    static void backwardTheOneAheadComesAnd7AheadOf0() {
        Carousel x = new Carousel();
        due("turn(false) at 0", x.turn(false), 7);
        due("count(2)", x.count(2), 7);
        for (int exhibit = 6; exhibit >= 0; exhibit--) {
            due("turn(false)", x.turn(false), exhibit);
        }
    }

    @Holds("Promise 11: Returns the exhibit at which it stands then")
    static void turnTellsWhereTheCarouselStandsThen() {
        Carousel x = after(Sentences::everywhere);
        x.enter(50, 100, 1000);
        for (int turn = 0; turn < 20; turn++) {
            due("turn", x.turn(turn % 3 != 0), x.count(2));
            due("the text that is shown there", x.visitor(5), 0);
        }
    }

    @Holds("Promise 11: This is an act.")
    static void turnIsAnAct() {
        isAnAct("turn(true)", Sentences::nothing, x -> x.turn(true));
        isAnAct("turn(false)", captionedFor(100), x -> x.turn(false));
        isAnAct("turn(true) without seconds", x -> {
            x.enter(50, 100, 5);
            x.turn(true);
        }, x -> x.turn(true));
        isAnAct("turn(false)", Sentences::lived, x -> x.turn(false));
    }

    @Holds("What a visitor is shown: the seconds that are left become less by the turning time")
    static void theSecondsBecomeLessByTheTurningTime() {
        Carousel x = new Carousel();
        x.enter(50, 100, 1000);
        x.turn(true);
        due("visitor(2)", x.visitor(2), 995);
        x.turn(false);
        due("visitor(2)", x.visitor(2), 990);
        x.setTurning(60);
        x.turn(false);
        due("visitor(2)", x.visitor(2), 930);
        x.setTurning(0);
        x.turn(true);
        due("visitor(2)", x.visitor(2), 930);
        x.setTurning(1);
        x.turn(true);
        due("visitor(2)", x.visitor(2), 929);
    }

    @Holds("What a visitor is shown: at least to 0")
    static void theSecondsBecomeLessAtLeastTo0() {
        for (int seconds = 1; seconds <= 7; seconds++) {
            Carousel x = new Carousel();
            x.enter(50, 100, seconds);
            x.turn(true);
            due("visitor(2) of " + seconds, x.visitor(2), Math.max(seconds - 5, 0));
            x.turn(false);
            due("visitor(2) of " + seconds, x.visitor(2), 0);
            x.turn(false);
            due("visitor(2) of none", x.visitor(2), 0);
        }
        for (int seconds = 59; seconds <= 61; seconds++) {
            Carousel x = new Carousel();
            x.setTurning(60);
            x.enter(50, 100, seconds);
            x.turn(false);
            due("visitor(2) of " + seconds, x.visitor(2), seconds == 61 ? 1 : 0);
        }
    }

    // ---- promise 12

    @Holds({"What a visitor is shown: (0 to 60; at first 5)", "Promise 12: `seconds`: 0 to 60",
        "Promise 12: BAD_VALUE"})
    static void theTurningTimeIs0To60() {
        range("setTurning", Sentences::lived, Carousel::setTurning, 0, 60, BAD_VALUE);
        range("setTurning", Sentences::nothing, Carousel::setTurning, 0, 60, BAD_VALUE);
    }

    @Holds("What a visitor is shown: at first 5")
    static void theTurningTimeIs5AtFirst() {
        due("count(3)", new Carousel().count(3), 5);
        due("setTurning(6)", new Carousel().setTurning(6), 5);
        due("setTurning(5)", new Carousel().setTurning(5), NONE);
    }

    @Holds({"Promise 12: Sets the turning time.", "Promise 12: Returns the previous one"})
    static void setTurningTellsThePreviousTime() {
        Carousel x = new Carousel();
        due("setTurning(60)", x.setTurning(60), 5);
        due("count(3)", x.count(3), 60);
        due("setTurning(0)", x.setTurning(0), 60);
        due("count(3)", x.count(3), 0);
        due("setTurning(1)", x.setTurning(1), 0);
        due("count(3)", x.count(3), 1);
    }

    @Holds("Promise 12: This is an act.")
    static void setTurningIsAnAct() {
        isAnAct("setTurning(0)", Sentences::nothing, x -> x.setTurning(0));
        isAnAct("setTurning(60)", Sentences::lived, x -> x.setTurning(60));
    }

    @Holds("Promise 12: NONE if it is so already")
    static void setTurningToTheSameIsNone() {
        refused("setTurning(5)", Sentences::nothing, x -> x.setTurning(5), NONE);
        refused("setTurning(9)", Sentences::lived, x -> x.setTurning(9), NONE);
        refused("setTurning(0)", x -> x.setTurning(0), x -> x.setTurning(0), NONE);
        refused("setTurning(60)", x -> x.setTurning(60), x -> x.setTurning(60), NONE);
    }
}
