import java.util.function.Consumer;

/** The sentences on facts, texts and captions, and promises 1 to 5. */
final class TextSentences extends Sentences {
    private TextSentences() {
    }

    // ---- promise 1

    @Holds("Promise 1: Creates a carousel without texts.")
    static void aNewCarouselHasNoTexts() {
        Carousel x = new Carousel();
        for (int exhibit = 0; exhibit < 8; exhibit++) {
            due("text(" + exhibit + ", 0, 0)", x.text(exhibit, 0, 0), UNKNOWN);
            due("shown(" + exhibit + ", 50)", x.shown(exhibit, 50), NONE);
        }
        Check.counts(x, 0, 0, 0, 5, 0, 0, 0, 0, 0, 0, 0);
        due("keep()", x.keep(), 0);
    }

    @Holds("Promise 1: Creates a carousel without texts.")
    static void twoCarouselsHaveNothingInCommon() {
        Carousel x = after(Sentences::lived);
        Carousel y = new Carousel();
        y.addText(0, 1, 1, 0, 1);
        Check.same("the other carousel", Look.at(x), Look.at(after(Sentences::lived)));
        Check.counts(y, 1, 0, 0, 5, 0, 0, 0, 1, 1, 1, 0);
    }

    @Holds("What it is: An object is used for at most 512 calls after it has been made")
    static void anObjectAnswers512Calls() {
        Carousel x = new Carousel();
        for (int call = 1; call <= 511; call++) {
            due("turn(true), call " + call, x.turn(true), call % 8);
        }
        due("call 512", x.count(2), 511 % 8);
    }

    // ---- facts

    @Holds("Facts, texts, captions: There are 16 facts, named by the letters a to p")
    static void thereAre16FactsNamedAToP() {
        Carousel x = new Carousel();
        Check.entries(x, "0:1/1/0=abcdefghijklmnop", 1);
        due("text(0, 0, 3)", x.text(0, 0, 3), ALL_FACTS);
        due("count(8)", x.count(8), 16);
        Check.fault("0:1/1/0=q", 8);
        due("a 17th fact", x.addText(1, 1, 1, 0, 65536), BAD_VALUE);
    }

    @Holds("Facts, texts, captions: a set of facts is a number of bits (1 for a, 2 for b, and so on)")
    static void eachFactIsABit() {
        for (int fact = 0; fact < 16; fact++) {
            Carousel x = new Carousel();
            Check.entries(x, "0:1/1/0=" + (char) ('a' + fact), 1);
            due("the facts of " + (char) ('a' + fact), x.text(0, 0, 3), 1 << fact);
        }
    }

    // ---- exhibits

    @Holds({"Facts, texts, captions: There are 8 exhibits, numbered from 0", "Promise 2: `exhibit`: 0 to 7",
        "Promise 2: UNKNOWN"})
    static void addTextTakesExhibits0To7() {
        range("addText at exhibit", Sentences::lived, (x, exhibit) -> x.addText(exhibit, 1, 1, 0, 1), 0, 7, UNKNOWN);
    }

    @Holds("Facts, texts, captions: There are 8 exhibits, numbered from 0, in a ring")
    static void theExhibitsAreInARing() {
        Carousel x = new Carousel();
        for (int turn = 1; turn <= 16; turn++) {
            due("turn(true)", x.turn(true), turn % 8);
        }
        for (int turn = 15; turn >= 0; turn--) {
            due("turn(false)", x.turn(false), turn % 8);
        }
    }

    // ---- at most 5 texts

    @Holds({"Facts, texts, captions: An exhibit has at most 5 texts", "Promise 2: FULL if the exhibit has 5"})
    static void aSixthTextIsRefused() {
        Carousel x = new Carousel();
        for (int text = 0; text < 5; text++) {
            due("addText", x.addText(3, 10, 1, 0, 1), text);
        }
        due("the sixth text", x.addText(3, 10, 1, 0, 1), FULL);
        refused("the sixth text", Sentences::fiveTexts, y -> y.addText(3, 10, 1, 0, 1), FULL);
    }

    @Holds("Facts, texts, captions: An exhibit has at most 5 texts")
    static void everyExhibitHasRoomFor5() {
        Carousel x = new Carousel();
        for (int exhibit = 0; exhibit < 8; exhibit++) {
            for (int text = 0; text < 5; text++) {
                due("addText at " + exhibit, x.addText(exhibit, 10 + text, 1, 0, 1), text);
            }
        }
        due("count(0)", x.count(0), 40);
        for (int exhibit = 0; exhibit < 8; exhibit++) {
            due("the sixth text at " + exhibit, x.addText(exhibit, 1, 1, 0, 1), FULL);
            due("the first text", x.text(exhibit, 0, 0), 10);
            due("the fifth text", x.text(exhibit, 4, 0), 14);
        }
    }

    @Holds("Facts, texts, captions: An exhibit has at most 5 texts")
    static void aFullExhibitHasRoomAgainAfterARemoval() {
        Carousel x = after(Sentences::fiveTexts);
        x.removeText(3, 2);
        due("addText", x.addText(3, 99, 1, 0, 1), 4);
        due("the sixth text", x.addText(3, 99, 1, 0, 1), FULL);
    }

    @Holds({"Facts, texts, captions: numbered from 0 in the order in which they were added",
        "Promise 2: Returns its number"})
    static void textsAreNumberedFrom0AsTheyWereAdded() {
        Carousel x = new Carousel();
        due("the first text", x.addText(6, 50, 1, 0, 1), 0);
        due("the second text", x.addText(6, 20, 1, 0, 1), 1);
        due("a first text elsewhere", x.addText(5, 30, 1, 0, 1), 0);
        due("the third text", x.addText(6, 40, 1, 0, 1), 2);
        Check.text(x, 6, 0, 50);
        Check.text(x, 6, 1, 20);
        Check.text(x, 6, 2, 40);
        Check.text(x, 5, 0, 30);
    }

    // ---- the numbers of a text

    @Holds("Promise 2: Adds a text.")
    static void addTextKeepsWhatItIsGiven() {
        Carousel x = new Carousel();
        x.addText(4, 77, 6, 5, 4660);
        Check.text(x, 4, 0, 77, 6, 5, 4660, 11, 0, 0);
        Check.counts(x, 1, 0, 0, 5, 0, 0, 0, 1, 5);
    }

    @Holds({"Facts, texts, captions: A text has words (1 to 300)", "Promise 2: `words`: 1 to 300",
        "Promise 2: BAD_VALUE"})
    static void aTextHas1To300Words() {
        range("words", Sentences::lived, (x, words) -> x.addText(1, words, 1, 0, 1), 1, 300, BAD_VALUE);
    }

    @Holds({"Facts, texts, captions: sentences (1 to 50", "Promise 2: `sentences`: 1 to 50"})
    static void aTextHas1To50Sentences() {
        range("sentences", Sentences::lived, (x, sentences) -> x.addText(1, 300, sentences, 0, 1), 1, 50, BAD_VALUE);
        range("sentences", Sentences::lived, (x, sentences) -> x.addText(1, 51, sentences, 0, 1), 1, 50, BAD_VALUE);
    }

    @Holds({"Facts, texts, captions: at most as many as its words", "Promise 2: at most words"})
    static void aTextHasAtMostAsManySentencesAsWords() {
        for (int words : new int[] {1, 2, 10, 49, 50}) {
            range("sentences of " + words + " words", Sentences::lived,
                (x, sentences) -> x.addText(1, words, sentences, 0, 1), 1, words, BAD_VALUE);
        }
    }

    @Holds({"Facts, texts, captions: long words (0 up to its words)", "Promise 2: `longs`: 0 to words"})
    static void aTextHas0LongWordsUpToItsWords() {
        for (int words : new int[] {1, 10, 300}) {
            range("long words of " + words, Sentences::lived,
                (x, longs) -> x.addText(1, words, 1, longs, 1), 0, words, BAD_VALUE);
        }
    }

    @Holds({"Facts, texts, captions: and a set of facts (not empty)", "Promise 2: `facts`: 1 to 65535"})
    static void aTextHasFacts1To65535() {
        range("facts", Sentences::lived, (x, facts) -> x.addText(1, 1, 1, 0, facts), 1, ALL_FACTS, BAD_VALUE);
    }

    @Holds("Promise 2: This is an act.")
    static void addTextIsAnAct() {
        isAnAct("addText", Sentences::nothing, x -> x.addText(0, 1, 1, 0, 1));
        isAnAct("addText", Sentences::lived, x -> x.addText(0, 1, 1, 0, 1));
    }

    // ---- the reading age

    private static void readingAge(int words, int sentences, int longs, int want) {
        Carousel x = new Carousel();
        x.addText(0, words, sentences, longs, 1);
        due("the reading age of " + words + ", " + sentences + ", " + longs, x.text(0, 0, 4), want);
    }

    @Holds("Facts, texts, captions: Its reading age is 4 + words / (2 * sentences) + 30 * long words / words")
    static void theReadingAgeOfTheLeastAndTheGreatestText() {
        readingAge(1, 1, 0, 4);
        readingAge(1, 1, 1, 34);
        readingAge(300, 1, 0, 154);
        readingAge(300, 1, 300, 184);
        readingAge(300, 50, 0, 7);
        readingAge(50, 50, 50, 34);
    }

    @Holds("Facts, texts, captions: 4 + words / (2 * sentences)")
    static void theReadingAgeGrowsByTwiceTheSentences() {
        readingAge(40, 1, 0, 24);
        readingAge(40, 2, 0, 14);
        readingAge(40, 4, 0, 9);
        readingAge(40, 20, 0, 5);
        readingAge(40, 40, 0, 4);
    }

    @Holds("Facts, texts, captions: both quotients rounded down")
    static void theQuotientOfWordsIsRoundedDown() {
        readingAge(19, 10, 0, 4);
        readingAge(20, 10, 0, 5);
        readingAge(39, 10, 0, 5);
        readingAge(40, 10, 0, 6);
        readingAge(3, 1, 0, 5);
        readingAge(299, 50, 0, 6);
        readingAge(300, 50, 0, 7);
    }

    @Holds("Facts, texts, captions: both quotients rounded down")
    static void theQuotientOfLongWordsIsRoundedDown() {
        readingAge(30, 30, 1, 5);
        readingAge(31, 31, 1, 4);
        readingAge(29, 29, 1, 5);
        readingAge(60, 50, 2, 5);
        readingAge(59, 50, 2, 5);
        readingAge(61, 50, 2, 4);
        readingAge(60, 50, 59, 33);
        readingAge(60, 50, 60, 34);
    }

    @Holds("Facts, texts, captions: both quotients rounded down")
    static void eachQuotientIsRoundedDownByItself() {
        readingAge(7, 2, 2, 13);
        readingAge(11, 3, 4, 15);
    }

    // ---- promise 3

    @Holds("Promise 3: Removes a text with its captions")
    static void removeTextTakesTheCaptionsAlong() {
        Carousel x = after(Sentences::threeCaptions);
        x.addText(3, 20, 1, 0, 1);
        x.addCaption(3, 1, 9, 1);
        x.removeText(3, 0);
        Check.counts(x, 1, 1);
        Check.text(x, 3, 0, 20, 1, 0, 1, 14, 1, 0);
        Check.caption(x, 3, 0, 0, 9, 1, 0);
        due("its second caption", x.caption(3, 0, 1, 0), UNKNOWN);
        x.addText(3, 30, 1, 0, 1);
        due("a new text has no captions", x.text(3, 1, 5), 0);
        due("a new text has no captions", x.caption(3, 1, 0, 0), UNKNOWN);
    }

    @Holds("Promise 3: later ones come one number earlier")
    static void laterTextsComeOneNumberEarlier() {
        wordsAfterRemoval(0, 11, 12, 13, 14);
        wordsAfterRemoval(2, 10, 11, 13, 14);
        wordsAfterRemoval(3, 10, 11, 12, 14);
        wordsAfterRemoval(4, 10, 11, 12, 13);
    }

    private static void wordsAfterRemoval(int removed, int... words) {
        Carousel x = after(Sentences::fiveTexts);
        x.addText(2, 98, 1, 0, 1);
        x.addText(4, 99, 1, 0, 1);
        x.removeText(3, removed);
        for (int text = 0; text < words.length; text++) {
            int fact = 1 << (words[text] - 10);
            Check.text(x, 3, text, words[text], 1, 0, fact, 4 + words[text] / 2, 1, 0);
            Check.caption(x, 3, text, 0, words[text] + 10, fact, 0);
        }
        due("the number behind the last", x.text(3, 4, 0), UNKNOWN);
        due("the exhibit ahead", x.text(2, 0, 0), 98);
        due("the exhibit behind", x.text(4, 0, 0), 99);
    }

    @Holds("Promise 3: This is an act.")
    static void removeTextIsAnAct() {
        isAnAct("removeText", x -> x.addText(0, 1, 1, 0, 1), x -> x.removeText(0, 0));
        isAnAct("removeText", Sentences::fiveTexts, x -> x.removeText(3, 1));
        isAnAct("removeText", Sentences::lived, x -> x.removeText(0, 0));
    }

    @Holds({"Promise 3: `exhibit`: 0 to 7", "Promise 3: UNKNOWN (exhibit or text)"})
    static void removeTextTakesExhibits0To7() {
        range("removeText at exhibit", Sentences::everywhere, (x, exhibit) -> x.removeText(exhibit, 0), 0, 7, UNKNOWN);
    }

    @Holds({"Promise 3: `text`: a text of it", "Promise 3: UNKNOWN (exhibit or text)"})
    static void removeTextTakesATextOfTheExhibit() {
        range("removeText of text", Sentences::fiveTexts, (x, text) -> x.removeText(3, text), 0, 4, UNKNOWN);
        range("removeText of text", Sentences::lived, (x, text) -> x.removeText(0, text), 0, 1, UNKNOWN);
        refused("removeText at an empty exhibit", Sentences::fiveTexts, x -> x.removeText(2, 0), UNKNOWN);
    }

    @Holds("Promise 3: Returns how many are left")
    static void removeTextTellsHowManyAreLeft() {
        Carousel x = after(Sentences::fiveTexts);
        x.addText(2, 1, 1, 0, 1);
        for (int left = 4; left >= 0; left--) {
            due("removeText", x.removeText(3, left / 2), left);
        }
        due("removeText of none", x.removeText(3, 0), UNKNOWN);
    }

    // ---- promise 4

    @Holds("Promise 4: Gives a text other facts.")
    static void setFactsChangesTheFactsAlone() {
        Carousel x = after(Sentences::lived);
        x.setFacts(0, 0, 32770);
        Check.text(x, 0, 0, 60, 10, 0, 32770, 7, 2, 1);
        Check.text(x, 0, 1, 100, 5, 10, 56, 17, 0, 0);
        Check.caption(x, 0, 0, 0, 5, 2, 1);
        due("what the visitor has learned", x.visitor(3), 7);
    }

    @Holds("Promise 4: This is an act.")
    static void setFactsIsAnAct() {
        isAnAct("setFacts", x -> x.addText(0, 1, 1, 0, 1), x -> x.setFacts(0, 0, 2));
        isAnAct("setFacts", Sentences::lived, x -> x.setFacts(0, 0, 2));
    }

    @Holds({"Promise 4: `exhibit`: 0 to 7", "Promise 4: UNKNOWN (exhibit or text)"})
    static void setFactsTakesExhibits0To7() {
        range("setFacts at exhibit", Sentences::everywhere, (x, exhibit) -> x.setFacts(exhibit, 0, 1), 0, 7, UNKNOWN);
    }

    @Holds({"Promise 4: `text`: a text of it", "Promise 4: UNKNOWN (exhibit or text)"})
    static void setFactsTakesATextOfTheExhibit() {
        range("setFacts of text", Sentences::fiveTexts, (x, text) -> x.setFacts(3, text, 31), 0, 4, UNKNOWN);
        range("setFacts of text", Sentences::lived, (x, text) -> x.setFacts(0, text, 63), 0, 1, UNKNOWN);
        refused("setFacts at an empty exhibit", Sentences::fiveTexts, x -> x.setFacts(2, 0, 31), UNKNOWN);
    }

    @Holds({"Promise 4: `facts`: 1 to 65535", "Promise 4: BAD_VALUE"})
    static void setFactsTakesFacts1To65535() {
        Consumer<Carousel> story = x -> x.addText(0, 1, 1, 0, 2);
        range("setFacts to", story, (x, facts) -> x.setFacts(0, 0, facts), 1, ALL_FACTS, BAD_VALUE);
    }

    @Holds("Promise 4: Returns the previous ones")
    static void setFactsTellsThePreviousOnes() {
        Carousel x = after(Sentences::nothing);
        x.addText(0, 1, 1, 0, ALL_FACTS);
        due("setFacts", x.setFacts(0, 0, 1), ALL_FACTS);
        due("setFacts", x.setFacts(0, 0, 32768), 1);
        due("setFacts", x.setFacts(0, 0, 12), 32768);
        due("text(0, 0, 3)", x.text(0, 0, 3), 12);
    }

    @Holds({"Promise 4: NOT_POSSIBLE if any caption of it would tell more",
        "Facts, texts, captions: a set of facts, which are all among those of the text"})
    static void setFactsKeepsWhatEachCaptionTells() {
        refused("without the fact of the first caption", Sentences::threeCaptions,
            x -> x.setFacts(3, 0, ALL_FACTS - 1), NOT_POSSIBLE);
        refused("without the fact of the second caption", Sentences::threeCaptions,
            x -> x.setFacts(3, 0, ALL_FACTS - 2), NOT_POSSIBLE);
        refused("without the fact of the third caption", Sentences::threeCaptions,
            x -> x.setFacts(3, 0, ALL_FACTS - 4), NOT_POSSIBLE);
        due("without the fact of no caption", after(Sentences::threeCaptions).setFacts(3, 0, ALL_FACTS - 8), 15);
        due("just what the captions tell", after(Sentences::threeCaptions).setFacts(3, 0, 7), 15);
    }

    @Holds("Promise 4: NOT_POSSIBLE if any caption of it would tell more")
    static void setFactsIsNotBoundByOtherTexts() {
        Carousel x = after(Sentences::threeCaptions);
        x.addText(3, 1, 1, 0, 1);
        x.addText(4, 1, 1, 0, 1);
        due("setFacts of a text without captions", x.setFacts(3, 1, 16), 1);
        due("setFacts at another exhibit", x.setFacts(4, 0, 16), 1);
        x.removeText(3, 0);
        due("setFacts of the one that came earlier", x.setFacts(3, 0, 32), 16);
        x.addCaption(3, 0, 1, 0);
        due("setFacts under a caption without facts", x.setFacts(3, 0, 1), 32);
    }

    @Holds("Promise 4: NOT_POSSIBLE if any caption of it would tell more")
    static void setFactsIsNotBoundByCaptionsThatTellNothing() {
        Consumer<Carousel> story = x -> {
            x.addText(0, 10, 1, 0, 15);
            for (int caption = 0; caption < 3; caption++) {
                x.addCaption(0, 0, 20 + caption, 0);
            }
        };
        for (int fact = 0; fact < 16; fact++) {
            due("setFacts to one fact", after(story).setFacts(0, 0, 1 << fact), 15);
        }
    }

    @Holds("Promise 4: NOT_POSSIBLE if any caption of it would tell more")
    static void setFactsIsNotBoundByCaptionsOfARemovedText() {
        Carousel x = after(Sentences::threeCaptions);
        x.removeText(3, 0);
        x.addText(3, 10, 1, 0, 15);
        due("setFacts in its place", x.setFacts(3, 0, 16), 15);
        x.addCaption(3, 0, 1, 16);
        due("setFacts in its place, with a caption", x.setFacts(3, 0, 48), 16);
    }

    @Holds("Promise 4: NONE if it has these already")
    static void setFactsToTheSameIsNone() {
        refused("setFacts to the same", Sentences::lived, x -> x.setFacts(0, 0, 7), NONE);
        refused("setFacts to the same", Sentences::lived, x -> x.setFacts(7, 0, 4097), NONE);
        due("setFacts to one more", after(Sentences::lived).setFacts(0, 0, 15), 7);
        due("setFacts to one fewer", after(Sentences::lived).setFacts(0, 0, 6), 7);
    }

    // ---- promise 5

    @Holds("Promise 5: Adds a caption.")
    static void addCaptionKeepsWhatItIsGiven() {
        Carousel x = after(Sentences::lived);
        x.addCaption(0, 1, 17, 40);
        Check.caption(x, 0, 1, 0, 17, 40, 0);
        due("text(0, 1, 5)", x.text(0, 1, 5), 1);
        Check.caption(x, 0, 0, 0, 5, 2, 1);
        Check.caption(x, 0, 0, 1, 6, 0, 0);
        due("count(1)", x.count(1), 3);
    }

    @Holds("Promise 5: This is an act.")
    static void addCaptionIsAnAct() {
        isAnAct("addCaption", x -> x.addText(0, 1, 1, 0, 1), x -> x.addCaption(0, 0, 1, 1));
        isAnAct("addCaption", Sentences::lived, x -> x.addCaption(0, 0, 1, 1));
    }

    @Holds({"Promise 5: `exhibit`: 0 to 7", "Promise 5: UNKNOWN (exhibit or text)"})
    static void addCaptionTakesExhibits0To7() {
        range("addCaption at exhibit", Sentences::everywhere,
            (x, exhibit) -> x.addCaption(exhibit, 0, 1, 1), 0, 7, UNKNOWN);
    }

    @Holds({"Promise 5: `text`: a text of it", "Promise 5: UNKNOWN (exhibit or text)"})
    static void addCaptionTakesATextOfTheExhibit() {
        range("addCaption to text", Sentences::fiveTexts, (x, text) -> x.addCaption(3, text, 1, 0), 0, 4, UNKNOWN);
        range("addCaption to text", Sentences::lived, (x, text) -> x.addCaption(0, text, 1, 0), 0, 1, UNKNOWN);
        refused("addCaption at an empty exhibit", Sentences::fiveTexts, x -> x.addCaption(2, 0, 1, 0), UNKNOWN);
    }

    @Holds({"Facts, texts, captions: each with words (1 to 30)", "Promise 5: `words`: 1 to 30",
        "Promise 5: BAD_VALUE"})
    static void aCaptionHas1To30Words() {
        range("words", Sentences::lived, (x, words) -> x.addCaption(0, 0, words, 1), 1, 30, BAD_VALUE);
        Carousel x = after(Sentences::lived);
        x.addCaption(0, 1, 1, 8);
        x.addCaption(0, 1, 30, 8);
        due("the least", x.caption(0, 1, 0, 0), 1);
        due("the greatest", x.caption(0, 1, 1, 0), 30);
    }

    @Holds({"Promise 5: `facts`: 0 to 65535", "Promise 5: BAD_VALUE"})
    static void aCaptionHasFacts0To65535() {
        range("facts", Sentences::everywhere, (x, facts) -> x.addCaption(0, 0, 1, facts), 0, ALL_FACTS, BAD_VALUE);
    }

    @Holds("Facts, texts, captions: (it may be empty)")
    static void aCaptionMayTellNothing() {
        Carousel x = after(Sentences::fiveTexts);
        due("addCaption", x.addCaption(3, 0, 1, 0), 1);
        due("its facts", x.caption(3, 0, 1, 1), 0);
    }

    @Holds({"Facts, texts, captions: a set of facts, which are all among those of the text",
        "Promise 5: NOT_POSSIBLE if it would tell more than its text"})
    static void aCaptionTellsNoMoreThanItsText() {
        Consumer<Carousel> story = x -> x.addText(0, 1, 1, 0, 16386);
        due("all of the text's facts", after(story).addCaption(0, 0, 1, 16386), 0);
        due("one of them", after(story).addCaption(0, 0, 1, 2), 0);
        due("the other one", after(story).addCaption(0, 0, 1, 16384), 0);
        refused("one more", story, x -> x.addCaption(0, 0, 1, 16387), NOT_POSSIBLE);
        refused("another one", story, x -> x.addCaption(0, 0, 1, 32768), NOT_POSSIBLE);
        refused("all facts", story, x -> x.addCaption(0, 0, 1, ALL_FACTS), NOT_POSSIBLE);
    }

    @Holds({"Facts, texts, captions: A text has at most 3 captions", "Promise 5: FULL if the text has 3"})
    static void aFourthCaptionIsRefused() {
        Carousel x = after(Sentences::fiveTexts);
        due("the second caption", x.addCaption(3, 0, 1, 1), 1);
        due("the third caption", x.addCaption(3, 0, 1, 1), 2);
        due("the fourth caption", x.addCaption(3, 0, 1, 1), FULL);
        due("another text has room", x.addCaption(3, 1, 1, 2), 1);
        refused("the fourth caption", Sentences::threeCaptions, y -> y.addCaption(3, 0, 1, 1), FULL);
    }

    @Holds("Facts, texts, captions: A text has at most 3 captions")
    static void everyTextHasRoomFor3Captions() {
        Carousel x = after(Sentences::fiveTexts);
        for (int text = 0; text < 5; text++) {
            x.addCaption(3, text, 25 + text, 0);
            due("the third caption", x.addCaption(3, text, 5 + text, 0), 2);
        }
        for (int text = 0; text < 5; text++) {
            due("the fourth caption", x.addCaption(3, text, 1, 0), FULL);
            Check.caption(x, 3, text, 0, 20 + text, 1 << text, 0);
            Check.caption(x, 3, text, 1, 25 + text, 0, 0);
            Check.caption(x, 3, text, 2, 5 + text, 0, 0);
            due("the text's words", x.text(3, text, 0), 10 + text);
        }
        due("count(1)", x.count(1), 15);
    }

    @Holds({"Facts, texts, captions: at most 3 captions, numbered from 0", "Promise 5: Returns its number"})
    static void captionsAreNumberedFrom0() {
        Carousel x = new Carousel();
        x.addText(0, 10, 1, 0, 7);
        x.addText(0, 10, 1, 0, 7);
        due("the first caption", x.addCaption(0, 1, 11, 1), 0);
        due("the second caption", x.addCaption(0, 1, 12, 2), 1);
        due("the first one of another text", x.addCaption(0, 0, 13, 4), 0);
        due("the third caption", x.addCaption(0, 1, 14, 4), 2);
        due("the first caption's words", x.caption(0, 1, 0, 0), 11);
        due("the second caption's words", x.caption(0, 1, 1, 0), 12);
        due("the third caption's words", x.caption(0, 1, 2, 0), 14);
        due("the other text's", x.caption(0, 0, 0, 0), 13);
    }
}
