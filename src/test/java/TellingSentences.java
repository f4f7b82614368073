import java.util.function.Consumer;

/** The sentences of promises 18 to 25: what is told. */
final class TellingSentences extends Sentences {
    private TellingSentences() {
    }

    // ---- promise 18

    @Holds({"Promise 18: `exhibit`: 0 to 7", "Promise 18: UNKNOWN (exhibit or text)"})
    static void textIsToldOfExhibits0To7() {
        range("text at exhibit", Sentences::everywhere, (x, exhibit) -> x.text(exhibit, 0, 0), 0, 7, UNKNOWN);
    }

    @Holds({"Promise 18: `text`: a text of it", "Promise 18: UNKNOWN (exhibit or text)"})
    static void textIsToldOfATextOfTheExhibit() {
        range("text", Sentences::fiveTexts, (x, text) -> x.text(3, text, 0), 0, 4, UNKNOWN);
        range("text", Sentences::lived, (x, text) -> x.text(0, text, 0), 0, 1, UNKNOWN);
        refused("text at an empty exhibit", Sentences::fiveTexts, x -> x.text(2, 0, 0), UNKNOWN);
        Carousel x = after(Sentences::fiveTexts);
        x.removeText(3, 0);
        due("text of what was removed", x.text(3, 4, 0), UNKNOWN);
    }

    @Holds({"Promise 18: `what`: 0 for its words", "Promise 18: 1 for its sentences",
        "Promise 18: 2 for its long words", "Promise 18: 3 for its facts", "Promise 18: 4 for its reading age",
        "Promise 18: 5 for its captions", "Promise 18: 6 for how often it was read", "Promise 18: Returns the number"})
    static void textTellsEachNumber() {
        Carousel x = after(Sentences::lived);
        Check.text(x, 0, 0, 60, 10, 0, 7, 7, 2, 1);
        Check.text(x, 0, 1, 100, 5, 10, 56, 17, 0, 0);
        Check.text(x, 7, 0, 20, 2, 0, 4097, 9, 0, 0);
    }

    @Holds("Promise 18: BAD_VALUE")
    static void textTells0To6() {
        range("text of what", Sentences::lived, (x, what) -> x.text(0, 0, what), 0, 6, BAD_VALUE);
    }

    // ---- promise 19

    @Holds({"Promise 19: `exhibit`: 0 to 7", "Promise 19: UNKNOWN (exhibit, text or caption)"})
    static void captionIsToldOfExhibits0To7() {
        range("caption at exhibit", Sentences::everywhere, (x, exhibit) -> x.caption(exhibit, 0, 0, 0), 0, 7, UNKNOWN);
    }

    @Holds({"Promise 19: `text`: a text of it", "Promise 19: UNKNOWN (exhibit, text or caption)"})
    static void captionIsToldOfATextOfTheExhibit() {
        range("caption of text", Sentences::fiveTexts, (x, text) -> x.caption(3, text, 0, 0), 0, 4, UNKNOWN);
        refused("caption at an empty exhibit", Sentences::fiveTexts, x -> x.caption(2, 0, 0, 0), UNKNOWN);
    }

    @Holds({"Promise 19: `caption`: a caption of that", "Promise 19: UNKNOWN (exhibit, text or caption)"})
    static void captionIsToldOfACaptionOfTheText() {
        range("caption", Sentences::threeCaptions, (x, caption) -> x.caption(3, 0, caption, 0), 0, 2, UNKNOWN);
        range("caption", Sentences::lived, (x, caption) -> x.caption(0, 0, caption, 0), 0, 1, UNKNOWN);
        refused("caption of a text without one", Sentences::lived, x -> x.caption(0, 1, 0, 0), UNKNOWN);
    }

    @Holds({"Promise 19: `what`: 0 for its words", "Promise 19: 1 for its facts",
        "Promise 19: 2 for how often it was read", "Promise 19: Returns the number"})
    static void captionTellsEachNumber() {
        Carousel x = after(Sentences::lived);
        Check.caption(x, 0, 0, 0, 5, 2, 1);
        Check.caption(x, 0, 0, 1, 6, 0, 0);
        x.touch(0);
        x.touch(1);
        Check.caption(x, 0, 0, 0, 5, 2, 2);
        Check.caption(x, 0, 0, 1, 6, 0, 1);
    }

    @Holds("Promise 19: BAD_VALUE")
    static void captionTells0To2() {
        range("caption of what", Sentences::lived, (x, what) -> x.caption(0, 0, 0, what), 0, 2, BAD_VALUE);
    }

    // ---- promise 20

    @Holds({"Promise 20: `what`: 0 for the age", "Promise 20: 1 for the pace",
        "Promise 20: 2 for the seconds that are left",
        "Promise 20: 3 for the facts that were learned (as bits)", "Promise 20: 4 for how many these are",
        "Promise 20: Returns the number"})
    static void visitorTellsEachNumber() {
        Check.visitor(after(Sentences::lived), 10, 100, 443, 7, 3, 0);
        Carousel x = new Carousel();
        x.addText(0, 1, 1, 0, ALL_FACTS);
        x.enter(99, 400, 9999);
        x.read();
        Check.visitor(x, 99, 400, 9998, ALL_FACTS, 16, 0);
    }

    @Holds("Promise 20: 5 for the text that is shown (NONE without one)")
    static void visitorTellsTheTextThatIsShown() {
        Carousel x = after(Sentences::lived);
        due("visitor(5)", x.visitor(5), 0);
        x.enter(17, 100, 100);
        due("visitor(5) of another age", x.visitor(5), 1);
        x.turn(true);
        due("visitor(5) where no text is", x.visitor(5), NONE);
        x.addText(1, 1, 1, 0, 1);
        due("visitor(5) of a new text", x.visitor(5), 0);
    }

    @Holds("Promise 20: BAD_VALUE")
    static void visitorTells0To5() {
        range("visitor", Sentences::lived, Carousel::visitor, 0, 5, BAD_VALUE);
        for (int what : new int[] {-1, 6, Integer.MIN_VALUE, Integer.MAX_VALUE}) {
            refused("visitor of none", Sentences::nothing, x -> x.visitor(what), BAD_VALUE);
        }
    }

    @Holds("Promise 20: NONE if there is no visitor")
    static void visitorIsNoneWithoutAVisitor() {
        for (int what = 0; what <= 5; what++) {
            int asked = what;
            refused("visitor(" + what + ")", Sentences::everywhere, x -> x.visitor(asked), NONE);
        }
    }

    // ---- promise 21

    @Holds({"Promise 21: Tells the text that an age is shown at an exhibit.", "Promise 21: Returns the text"})
    static void shownTellsTheTextOfThatExhibitAndAge() {
        Carousel x = after(Sentences::lived);
        due("shown", x.shown(0, 16), 0);
        due("shown", x.shown(0, 17), 1);
        due("shown at another exhibit", x.shown(7, 17), 0);
        due("the carousel stands where it stood", x.count(2), 0);
        due("the visitor is who it was", x.visitor(0), 10);
    }

    @Holds({"Promise 21: `exhibit`: 0 to 7", "Promise 21: UNKNOWN"})
    static void shownTakesExhibits0To7() {
        range("shown at exhibit", Sentences::everywhere, (x, exhibit) -> x.shown(exhibit, 50), 0, 7, UNKNOWN);
    }

    @Holds({"Promise 21: `age`: 4 to 99", "Promise 21: BAD_VALUE"})
    static void shownTakesAges4To99() {
        range("shown to age", Sentences::lived, (x, age) -> x.shown(0, age), 4, 99, BAD_VALUE);
    }

    @Holds("Promise 21: NONE without one")
    static void shownIsNoneWithoutAText() {
        refused("shown", Sentences::lived, x -> x.shown(1, 50), NONE);
        refused("shown", Sentences::lived, x -> x.shown(6, 4), NONE);
        refused("shown of a new carousel", Sentences::nothing, x -> x.shown(0, 99), NONE);
    }

    // ---- promise 22

    @Holds({"Promise 22: Tells the facts of all texts of all exhibits that an age is shown nowhere.",
        "Promise 22: Returns the facts, as bits"})
    static void unmetTellsTheFactsThatAnAgeIsShownNowhere() {
        Carousel x = new Carousel();
        x.addText(0, 20, 1, 0, 1 + 2);
        x.addText(0, 40, 1, 0, 4 + 32768);
        x.addText(7, 60, 1, 0, 2 + 8);
        due("below all", x.unmet(4), 4 + 32768);
        due("just below the second", x.unmet(23), 4 + 32768);
        due("at the second", x.unmet(24), 1);
        due("above all", x.unmet(99), 1);
    }

    @Holds("Promise 22: that an age is shown nowhere")
    static void aFactThatIsShownAnywhereIsNotUnmet() {
        Carousel x = new Carousel();
        x.addText(0, 20, 1, 0, 1);
        x.addText(0, 40, 1, 0, 2);
        due("shown nowhere", x.unmet(24), 1);
        x.addText(6, 40, 1, 0, 1);
        due("shown at another exhibit", x.unmet(24), 0);
        x.removeText(6, 0);
        due("shown nowhere again", x.unmet(24), 1);
    }

    @Holds("Promise 22: the facts of all texts of all exhibits")
    static void unmetOfNoTextsIsEmpty() {
        due("unmet of a new carousel", new Carousel().unmet(4), 0);
        due("unmet of texts that are all shown", after(Sentences::everywhere).unmet(99), 0);
        Carousel x = new Carousel();
        x.addText(3, 1, 1, 0, 1);
        x.addText(3, 2, 1, 0, ALL_FACTS);
        due("unmet of all facts but one", x.unmet(4), ALL_FACTS - 1);
    }

    @Holds("Promise 22: the facts of all texts of all exhibits")
    static void exhibitsWithoutATextAddNothingToWhatIsMet() {
        for (int exhibit = 0; exhibit < 8; exhibit++) {
            Carousel x = new Carousel();
            x.addText(exhibit, 255, 1, 255, 1);
            x.addText(exhibit, 300, 1, 300, ALL_FACTS);
            due("unmet beside exhibits without a text", x.unmet(4), ALL_FACTS - 1);
        }
    }

    @Holds({"Promise 22: `age`: 4 to 99", "Promise 22: BAD_VALUE"})
    static void unmetTakesAges4To99() {
        range("unmet", Sentences::lived, Carousel::unmet, 4, 99, BAD_VALUE);
        range("unmet", Sentences::nothing, Carousel::unmet, 4, 99, BAD_VALUE);
    }

    // ---- promise 23

    /** Each exhibit has a text of 60 words with a fact of its own, and turning takes no time. */
    private static void oneFactEach(Carousel x) {
        for (int exhibit = 0; exhibit < 8; exhibit++) {
            x.addText(exhibit, 60, 10, 0, 1 << exhibit);
        }
        x.setTurning(0);
    }

    @Holds({"Promise 23: turns the carousel forward from there seven times", "Promise 23: Returns the facts, as bits"})
    static void aRoundComesToEveryExhibitOnce() {
        for (int start = 0; start < 8; start++) {
            Carousel x = after(TellingSentences::oneFactEach);
            for (int turn = 0; turn < start; turn++) {
                x.turn(true);
            }
            due("time for all from " + start, x.round(50, 60, 480), 255);
            int all = 0;
            for (int visited = 1; visited <= 8; visited++) {
                all |= 1 << (start + visited - 1) % 8;
                due("time for " + visited + " from " + start, x.round(50, 60, 60 * visited), all);
                due("a second less", x.round(50, 60, 60 * visited - 1), all & ~(1 << (start + visited - 1) % 8));
            }
        }
    }

    @Holds("Promise 23: who comes to the present exhibit")
    static void aRoundBeginsAtThePresentExhibit() {
        Carousel x = after(TellingSentences::oneFactEach);
        due("from 0", x.round(50, 60, 60), 1);
        x.turn(false);
        due("from 7", x.round(50, 60, 60), 128);
        due("from 7 and behind it 0", x.round(50, 60, 120), 129);
    }

    @Holds("Promise 23: turns the carousel forward from there seven times")
    static void aRoundTurnsSevenTimes() {
        Carousel x = new Carousel();
        x.addText(7, 60, 10, 0, 1);
        x.setTurning(10);
        due("seven turns and the text", x.round(50, 60, 130), 1);
        due("a second less", x.round(50, 60, 129), 0);
        x.turn(true);
        due("six turns and the text", x.round(50, 60, 120), 1);
        due("a second less", x.round(50, 60, 119), 0);
        x.setTurning(60);
        due("no seconds are left by turning", x.round(50, 60, 360), 0);
    }

    @Holds("Promise 23: at each one reads the text that is shown, whether it has captions or not")
    static void aRoundReadsTextsWithCaptionsToo() {
        Carousel x = after(TellingSentences::oneFactEach);
        x.addCaption(0, 0, 30, 1);
        x.addCaption(5, 0, 30, 0);
        due("no caption takes time", x.round(50, 60, 480), 255);
        x.addText(0, 60, 1, 0, 256);
        due("the text that is shown to the age", x.round(50, 60, 480), 256 + 254);
        due("the text that is shown to another age", x.round(33, 60, 480), 255);
    }

    @Holds("Promise 23: whenever read() would not tell NONE")
    static void aRoundLeavesOutWhatTakesTooLongOrTellsNothingNew() {
        Carousel x = new Carousel();
        x.setTurning(0);
        x.addText(0, 61, 10, 0, 1);
        x.addText(1, 60, 10, 0, 2);
        x.addText(2, 10, 10, 0, 2);
        x.addText(3, 10, 10, 0, 4);
        due("just time for the first", x.round(50, 60, 61), 1);
        due("not for the first, so for the second", x.round(50, 60, 60), 2);
        due("the third tells nothing new, so the fourth is read", x.round(50, 60, 131), 7);
        due("a second less", x.round(50, 60, 130), 3);
        due("time for none but the third and the fourth", x.round(50, 60, 20), 6);
    }

    @Holds("Promise 23: Tells the facts that one visitor learns in a whole round")
    static void aRoundIsOnlyToldOf() {
        changesNothing("round", Sentences::lived, x -> x.round(99, 400, 9999), 56 | 4097);
        changesNothing("round", Sentences::nothing, x -> x.round(99, 400, 9999), 0);
        Carousel x = after(Sentences::lived);
        due("what the visitor has learned is not what this one has", x.round(10, 100, 36), 7);
    }

    @Holds({"Promise 23: `age`: 4 to 99", "Promise 23: BAD_VALUE"})
    static void aRoundTakesAges4To99() {
        range("age", Sentences::lived, (x, age) -> x.round(age, 100, 100), 4, 99, BAD_VALUE);
    }

    @Holds({"Promise 23: `pace`: 30 to 400", "Promise 23: BAD_VALUE"})
    static void aRoundTakesPaces30To400() {
        range("pace", Sentences::lived, (x, pace) -> x.round(50, pace, 100), 30, 400, BAD_VALUE);
        refused("pace 0", Sentences::lived, x -> x.round(50, 0, 100), BAD_VALUE);
    }

    @Holds({"Promise 23: `seconds`: 1 to 9999", "Promise 23: BAD_VALUE"})
    static void aRoundTakesSeconds1To9999() {
        range("seconds", Sentences::lived, (x, seconds) -> x.round(50, 100, seconds), 1, 9999, BAD_VALUE);
    }

    // ---- promise 24

    private static void agesOf(Carousel x, int text, int least, int greatest, int number) {
        due("ages(0, " + text + ", 0)", x.ages(0, text, 0), least);
        due("ages(0, " + text + ", 1)", x.ages(0, text, 1), greatest);
        due("ages(0, " + text + ", 2)", x.ages(0, text, 2), number);
    }

    @Holds({"Promise 24: Tells the ages, from 4 to 99, that are shown a text.",
        "Promise 24: `what`: 0 for the least of them", "Promise 24: 1 for the greatest",
        "Promise 24: 2 for how many there are", "Promise 24: Returns the number"})
    static void agesTellsTheLeastTheGreatestAndHowMany() {
        Carousel x = new Carousel();
        x.addText(0, 40, 1, 0, 1);
        agesOf(x, 0, 4, 99, 96);
        x.addText(0, 20, 1, 0, 1);
        agesOf(x, 0, 24, 99, 76);
        agesOf(x, 1, 4, 23, 20);
        x.addText(0, 60, 1, 0, 1);
        agesOf(x, 0, 24, 33, 10);
        agesOf(x, 1, 4, 23, 20);
        agesOf(x, 2, 34, 99, 66);
    }

    @Holds("Promise 24: from 4 to 99")
    static void agesReachFrom4To99() {
        Carousel x = new Carousel();
        x.addText(0, 1, 1, 0, 1);
        x.addText(0, 2, 1, 0, 1);
        x.addText(0, 190, 1, 0, 1);
        agesOf(x, 0, 4, 4, 1);
        agesOf(x, 1, 5, 98, 94);
        agesOf(x, 2, 99, 99, 1);
    }

    @Holds("Promise 24: NONE for 0 and 1 if there is none")
    static void agesOfATextThatNobodyIsShownIsNone() {
        Consumer<Carousel> hidden = x -> {
            x.addText(0, 20, 1, 0, 1);
            x.addText(0, 20, 1, 0, 1);
            x.addText(0, 192, 1, 0, 1);
        };
        refused("ages of the second of two like ones", hidden, x -> x.ages(0, 1, 0), NONE);
        refused("ages of the second of two like ones", hidden, x -> x.ages(0, 1, 1), NONE);
        due("how many", after(hidden).ages(0, 1, 2), 0);
        refused("ages of a text for 100", hidden, x -> x.ages(0, 2, 0), NONE);
        refused("ages of a text for 100", hidden, x -> x.ages(0, 2, 1), NONE);
        due("how many", after(hidden).ages(0, 2, 2), 0);
    }

    @Holds({"Promise 24: `exhibit`: 0 to 7", "Promise 24: UNKNOWN (exhibit or text)"})
    static void agesAreToldOfExhibits0To7() {
        range("ages at exhibit", Sentences::everywhere, (x, exhibit) -> x.ages(exhibit, 0, 0), 0, 7, UNKNOWN);
    }

    @Holds({"Promise 24: `text`: a text of it", "Promise 24: UNKNOWN (exhibit or text)"})
    static void agesAreToldOfATextOfTheExhibit() {
        range("ages of text", Sentences::fiveTexts, (x, text) -> x.ages(3, text, 2), 0, 4, UNKNOWN);
        range("ages of text", Sentences::lived, (x, text) -> x.ages(0, text, 2), 0, 1, UNKNOWN);
        refused("ages at an empty exhibit", Sentences::fiveTexts, x -> x.ages(2, 0, 2), UNKNOWN);
    }

    @Holds("Promise 24: BAD_VALUE")
    static void agesTells0To2() {
        range("ages of what", Sentences::lived, (x, what) -> x.ages(0, 0, what), 0, 2, BAD_VALUE);
    }

    // ---- promise 25

    @Holds({"Promise 25: `what`: 0 for texts", "Promise 25: 1 for captions"})
    static void countTellsTextsAndCaptions() {
        Carousel x = new Carousel();
        due("texts at first", x.count(0), 0);
        due("captions at first", x.count(1), 0);
        everywhere(x);
        due("texts", x.count(0), 8);
        due("captions", x.count(1), 8);
        x.addText(7, 1, 1, 0, 1);
        x.addCaption(0, 0, 1, 1);
        x.addCaption(0, 0, 1, 1);
        due("texts", x.count(0), 9);
        due("captions", x.count(1), 10);
        x.removeText(0, 0);
        due("texts", x.count(0), 8);
        due("captions", x.count(1), 7);
    }

    @Holds("Promise 25: 0 for texts")
    static void countTellsAllTextsAndCaptionsThereMayBe() {
        Carousel x = new Carousel();
        for (int number = 0; number < 40; number++) {
            x.addText(number % 8, 1, 1, 0, 1);
            for (int caption = 0; caption < 3; caption++) {
                x.addCaption(number % 8, number / 8, 1, 1);
            }
        }
        Check.counts(x, 40, 120, 0, 5, 0, 0, 0, 40, 1, 4, 0);
    }

    @Holds({"Promise 25: 2 for the exhibit at which the carousel stands", "Promise 25: 3 for the turning time"})
    static void countTellsTheExhibitAndTheTurningTime() {
        Carousel x = new Carousel();
        due("the exhibit at first", x.count(2), 0);
        due("the turning time at first", x.count(3), 5);
        x.turn(false);
        x.setTurning(60);
        due("the exhibit", x.count(2), 7);
        due("the turning time", x.count(3), 60);
    }

    @Holds("Promise 25: 4 for visitors so far")
    static void countTellsVisitorsSoFar() {
        Carousel x = new Carousel();
        due("visitors at first", x.count(4), 0);
        for (int visitor = 1; visitor <= 300; visitor++) {
            x.enter(50, 100, 100);
        }
        x.enter(3, 100, 100);
        due("visitors", x.count(4), 300);
    }

    @Holds({"Promise 25: 5 for texts that were read so far", "Promise 25: 6 for captions that were read so far"})
    static void countTellsHowManyTextsAndCaptionsWereReadSoFar() {
        Carousel x = after(Sentences::lived);
        due("texts that were read", x.count(5), 1);
        due("captions that were read", x.count(6), 1);
        x.touch(1);
        due("texts that were read", x.count(5), 1);
        due("captions that were read", x.count(6), 2);
        x.turn(false);
        x.read();
        x.read();
        due("texts that were read", x.count(5), 2);
        due("captions that were read", x.count(6), 2);
    }

    @Holds("Promise 25: 7 for texts that were never read")
    static void countTellsTextsThatWereNeverRead() {
        due("at first", new Carousel().count(7), 0);
        Carousel x = after(Sentences::lived);
        due("two of three", x.count(7), 2);
        x.turn(false);
        x.read();
        due("one of three", x.count(7), 1);
        x.removeText(0, 1);
        due("none of two", x.count(7), 0);
        x.addText(0, 1, 1, 0, 1);
        due("one of three again", x.count(7), 1);
    }

    @Holds("Promise 25: 8 for facts of all texts together (how many)")
    static void countTellsHowManyFactsAllTextsHave() {
        Carousel x = new Carousel();
        due("at first", x.count(8), 0);
        x.addText(0, 1, 1, 0, 1);
        due("a", x.count(8), 1);
        x.addText(7, 1, 1, 0, 32769);
        due("a and p", x.count(8), 2);
        x.addText(3, 1, 1, 0, ALL_FACTS);
        due("a to p", x.count(8), 16);
        x.removeText(3, 0);
        due("a and p", x.count(8), 2);
    }

    @Holds({"Promise 25: 9 for the states in the history", "Promise 25: 10 for the length of the pad",
        "Promise 25: Returns the number"})
    static void countTellsTheStatesAndTheLengthOfThePad() {
        Carousel x = new Carousel();
        for (int number = 1; number <= 70; number++) {
            x.type('0');
            due("the length of the pad", x.count(10), Math.min(number, 60));
        }
        for (int number = 1; number <= 6; number++) {
            x.turn(true);
            due("the states in the history", x.count(9), Math.min(number, 4));
        }
        for (int left = 3; left >= 0; left--) {
            x.undo();
            due("the states in the history", x.count(9), left);
        }
    }

    @Holds("Promise 25: BAD_VALUE")
    static void countTells0To10() {
        range("count", Sentences::lived, Carousel::count, 0, 10, BAD_VALUE);
        range("count", Sentences::nothing, Carousel::count, 0, 10, BAD_VALUE);
    }
}
