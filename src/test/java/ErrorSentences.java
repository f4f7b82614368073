import java.util.function.Consumer;

/** The sentences on errors: the constants, the order of the checks, and that what is refused changes nothing. */
final class ErrorSentences extends Sentences {
    /** Numbers that are in no range of the document. */
    private static final int[] FAR = {Integer.MIN_VALUE, -1000000, -1, 65536, 1000000, Integer.MAX_VALUE};

    private ErrorSentences() {
    }

    // ---- the constants

    @Holds({"Errors: Errors are reported by the constants below.", "Errors: The constants: `UNKNOWN = -1`",
        "Errors: `BAD_VALUE = -2`: Another argument is out of range.", "Errors: `FULL = -3`: There is no more room.",
        "Errors: `NOT_POSSIBLE = -4`: This is not possible.",
        "Errors: `NONE = -5`: There is no such thing; not an error."})
    static void theConstantsAreThoseOfTheDocument() {
        due("UNKNOWN", ExhibitTexts.UNKNOWN, -1);
        due("BAD_VALUE", ExhibitTexts.BAD_VALUE, -2);
        due("FULL", ExhibitTexts.FULL, -3);
        due("NOT_POSSIBLE", ExhibitTexts.NOT_POSSIBLE, -4);
        due("NONE", ExhibitTexts.NONE, -5);
    }

    @Holds("Errors: There is no such exhibit, text or caption.")
    static void unknownIsAnExhibitATextOrACaption() {
        Carousel x = after(Sentences::lived);
        due("no such exhibit", x.caption(8, 0, 0, 0), UNKNOWN);
        due("no such text", x.caption(0, 2, 0, 0), UNKNOWN);
        due("no such caption", x.caption(0, 0, 2, 0), UNKNOWN);
    }

    // ---- the order of the checks

    @Holds("Errors: the order of the @return line is the order of the checks")
    static void addTextChecksInOrder() {
        refused("UNKNOWN before BAD_VALUE", Sentences::lived, x -> x.addText(8, 0, 0, -1, 0), UNKNOWN);
        refused("UNKNOWN before BAD_VALUE", Sentences::lived, x -> x.addText(-1, 301, 51, 302, 65536), UNKNOWN);
        refused("UNKNOWN before BAD_VALUE", Sentences::lived, x -> x.addText(8, 1, 1, 0, 0), UNKNOWN);
        refused("BAD_VALUE before FULL", Sentences::fiveTexts, x -> x.addText(3, 0, 1, 0, 1), BAD_VALUE);
        refused("BAD_VALUE before FULL", Sentences::fiveTexts, x -> x.addText(3, 1, 2, 0, 1), BAD_VALUE);
        refused("BAD_VALUE before FULL", Sentences::fiveTexts, x -> x.addText(3, 1, 1, 2, 1), BAD_VALUE);
        refused("BAD_VALUE before FULL", Sentences::fiveTexts, x -> x.addText(3, 1, 1, 0, 0), BAD_VALUE);
    }

    @Holds("Errors: the order of the @return line is the order of the checks")
    static void setFactsChecksInOrder() {
        refused("UNKNOWN before BAD_VALUE", Sentences::threeCaptions, x -> x.setFacts(8, 0, 0), UNKNOWN);
        refused("UNKNOWN before BAD_VALUE", Sentences::threeCaptions, x -> x.setFacts(3, 1, 65536), UNKNOWN);
        refused("BAD_VALUE before NOT_POSSIBLE", Sentences::threeCaptions, x -> x.setFacts(3, 0, 0), BAD_VALUE);
        refused("BAD_VALUE before NOT_POSSIBLE", Sentences::threeCaptions, x -> x.setFacts(3, 0, 65536), BAD_VALUE);
    }

    @Holds("Errors: the order of the @return line is the order of the checks")
    static void addCaptionChecksInOrder() {
        refused("UNKNOWN before BAD_VALUE", Sentences::threeCaptions, x -> x.addCaption(8, 0, 0, 1), UNKNOWN);
        refused("UNKNOWN before BAD_VALUE", Sentences::threeCaptions, x -> x.addCaption(3, 1, 1, -1), UNKNOWN);
        refused("BAD_VALUE before NOT_POSSIBLE", Sentences::lived, x -> x.addCaption(0, 0, 31, 8), BAD_VALUE);
        refused("BAD_VALUE before NOT_POSSIBLE", Sentences::lived, x -> x.addCaption(0, 0, 1, 65536), BAD_VALUE);
        refused("BAD_VALUE before FULL", Sentences::threeCaptions, x -> x.addCaption(3, 0, 0, 1), BAD_VALUE);
        refused("BAD_VALUE before FULL", Sentences::threeCaptions, x -> x.addCaption(3, 0, 1, -1), BAD_VALUE);
        refused("NOT_POSSIBLE before FULL", Sentences::threeCaptions, x -> x.addCaption(3, 0, 1, 16), NOT_POSSIBLE);
    }

    @Holds("Errors: the order of the @return line is the order of the checks")
    static void readEntriesChecksInOrder() {
        Consumer<Carousel> story = x -> Check.type(x, "0:0/1/0=a;8");
        refused("the fault before NOT_POSSIBLE", story, Carousel::readEntries, -110);
        Carousel x = after(story);
        x.readEntries();
        due("refusal(0)", x.refusal(0), NONE);
    }

    @Holds("Errors: the order of the @return line is the order of the checks")
    static void entriesAreCheckedAsTheMethodsCheck() {
        entryRefused("0:0/0/1=a", BAD_VALUE);
        entryRefused("3:0/1/0=a", BAD_VALUE);
        entryRefused("3:1/1/0=a", FULL);
        entryRefused("3.0+1=bc", NOT_POSSIBLE);
        entryRefused("4.0+1=p", UNKNOWN);
    }

    private static void entryRefused(String pad, int error) {
        Carousel x = after(Sentences::fiveTexts);
        x.addCaption(3, 0, 1, 0);
        x.addCaption(3, 0, 1, 0);
        Check.entries(x, pad, NOT_POSSIBLE);
        due("refusal(1) of " + pad, x.refusal(1), error);
    }

    @Holds("Errors: the order of the @return line is the order of the checks")
    static void touchChecksInOrder() {
        refused("NOT_POSSIBLE before UNKNOWN, nobody there", Sentences::everywhere, x -> x.touch(3), NOT_POSSIBLE);
        refused("NOT_POSSIBLE before UNKNOWN, no text", x -> x.enter(50, 30, 1), x -> x.touch(-1), NOT_POSSIBLE);
        Consumer<Carousel> noTime = x -> {
            everywhere(x);
            x.enter(50, 30, 1);
        };
        refused("UNKNOWN before NONE", noTime, x -> x.touch(1), UNKNOWN);
        refused("NONE", noTime, x -> x.touch(0), NONE);
    }

    @Holds("Errors: the order of the @return line is the order of the checks")
    static void readChecksInOrder() {
        refused("NOT_POSSIBLE before NONE, a text with captions and no time", x -> {
            everywhere(x);
            x.enter(50, 30, 1);
        }, Carousel::read, NOT_POSSIBLE);
        refused("NOT_POSSIBLE before NONE, a text with captions and nothing new", x -> {
            x.addText(0, 1, 1, 0, 1);
            x.enter(50, 30, 1000);
            x.read();
            x.addCaption(0, 0, 1, 0);
        }, Carousel::read, NOT_POSSIBLE);
    }

    @Holds("Errors: the order of the @return line is the order of the checks")
    static void whatTellsOfTextsChecksInOrder() {
        refused("text: UNKNOWN before BAD_VALUE", Sentences::lived, x -> x.text(8, 0, 7), UNKNOWN);
        refused("text: UNKNOWN before BAD_VALUE", Sentences::lived, x -> x.text(0, 2, -1), UNKNOWN);
        refused("caption: UNKNOWN before BAD_VALUE", Sentences::lived, x -> x.caption(8, 0, 0, 3), UNKNOWN);
        refused("caption: UNKNOWN before BAD_VALUE", Sentences::lived, x -> x.caption(0, 2, 0, 3), UNKNOWN);
        refused("caption: UNKNOWN before BAD_VALUE", Sentences::lived, x -> x.caption(0, 0, 2, -1), UNKNOWN);
        refused("ages: UNKNOWN before BAD_VALUE", Sentences::lived, x -> x.ages(8, 0, 3), UNKNOWN);
        refused("ages: UNKNOWN before BAD_VALUE", Sentences::lived, x -> x.ages(0, 2, -1), UNKNOWN);
        refused("shown: UNKNOWN before BAD_VALUE", Sentences::lived, x -> x.shown(8, 3), UNKNOWN);
    }

    @Holds("Errors: NONE is no error; it is returned only if no error applies.")
    static void noneIsReturnedOnlyIfNoErrorApplies() {
        refused("shown: BAD_VALUE before NONE", Sentences::lived, x -> x.shown(1, 3), BAD_VALUE);
        refused("shown: NONE", Sentences::lived, x -> x.shown(1, 4), NONE);
        refused("visitor: BAD_VALUE before NONE", Sentences::nothing, x -> x.visitor(6), BAD_VALUE);
        refused("visitor: NONE", Sentences::nothing, x -> x.visitor(5), NONE);
        refused("refusal: BAD_VALUE before NONE", Sentences::nothing, x -> x.refusal(2), BAD_VALUE);
        refused("refusal: NONE", Sentences::nothing, x -> x.refusal(1), NONE);
        Consumer<Carousel> hidden = x -> {
            x.addText(0, 1, 1, 0, 1);
            x.addText(0, 1, 1, 0, 1);
        };
        refused("ages: BAD_VALUE before NONE", hidden, x -> x.ages(0, 1, 3), BAD_VALUE);
        refused("ages: NONE", hidden, x -> x.ages(0, 1, 1), NONE);
    }

    // ---- what is refused changes nothing

    @Holds("Errors: A call that returns an error or NONE changes nothing")
    static void textsAndCaptionsThatAreRefusedChangeNothing() {
        refused("addText", Sentences::lived, x -> x.addText(8, 1, 1, 0, 1), UNKNOWN);
        refused("addText", Sentences::lived, x -> x.addText(1, 0, 1, 0, 1), BAD_VALUE);
        refused("addText", Sentences::fiveTexts, x -> x.addText(3, 1, 1, 0, 1), FULL);
        refused("removeText", Sentences::lived, x -> x.removeText(0, 2), UNKNOWN);
        refused("setFacts", Sentences::lived, x -> x.setFacts(1, 0, 1), UNKNOWN);
        refused("setFacts", Sentences::lived, x -> x.setFacts(0, 0, 65536), BAD_VALUE);
        refused("setFacts", Sentences::lived, x -> x.setFacts(0, 0, 5), NOT_POSSIBLE);
        refused("setFacts", Sentences::lived, x -> x.setFacts(0, 0, 7), NONE);
        refused("addCaption", Sentences::lived, x -> x.addCaption(1, 0, 1, 1), UNKNOWN);
        refused("addCaption", Sentences::lived, x -> x.addCaption(0, 0, 31, 1), BAD_VALUE);
        refused("addCaption", Sentences::lived, x -> x.addCaption(0, 0, 1, 8), NOT_POSSIBLE);
        refused("addCaption", Sentences::threeCaptions, x -> x.addCaption(3, 0, 1, 1), FULL);
    }

    @Holds("Errors: A call that returns an error or NONE changes nothing")
    static void visitorsThatAreRefusedChangeNothing() {
        refused("enter", Sentences::lived, x -> x.enter(100, 100, 100), BAD_VALUE);
        refused("enter", Sentences::lived, x -> x.enter(50, 401, 100), BAD_VALUE);
        refused("enter", Sentences::lived, x -> x.enter(50, 100, 10000), BAD_VALUE);
        refused("touch", Sentences::lived, x -> x.touch(2), UNKNOWN);
        refused("touch", Sentences::everywhere, x -> x.touch(0), NOT_POSSIBLE);
        refused("read", Sentences::lived, Carousel::read, NOT_POSSIBLE);
        refused("setTurning", Sentences::lived, x -> x.setTurning(-1), BAD_VALUE);
        refused("setTurning", Sentences::lived, x -> x.setTurning(9), NONE);
        Consumer<Carousel> noTime = x -> {
            lived(x);
            x.enter(10, 30, 1);
        };
        refused("touch", noTime, x -> x.touch(0), NONE);
        refused("read", x -> {
            noTime.accept(x);
            x.turn(false);
        }, Carousel::read, NONE);
    }

    @Holds("Errors: A call that returns an error or NONE changes nothing")
    static void thePadAndTheHistoryThatAreRefusedChangeNothing() {
        refused("type", x -> Check.type(x, "7:1/1/0=a;7:2/1/0=b;7.0+1=;7.1+2=;7:3/1/0=c;7:4/1/0=abcdefgh"),
            x -> x.type('i'), FULL);
        refused("readEntries", x -> {
            lived(x);
            x.type('9');
        }, Carousel::readEntries, -100 - 10);
        refused("undo", Sentences::nothing, Carousel::undo, NONE);
        refused("restore", x -> x.setTurning(11), Carousel::restore, NONE);
    }

    @Holds("Errors: (but for the latest refusal of readEntries())")
    static void readEntriesThatIsRefusedChangesTheLatestRefusalAlone() {
        Consumer<Carousel> story = x -> {
            lived(x);
            Check.type(x, ";3.0+1=c");
        };
        Carousel x = after(story);
        Carousel other = after(story);
        due("readEntries()", x.readEntries(), NOT_POSSIBLE);
        Check.same("the state", Look.atState(x), Look.atState(other));
        due("count(9)", x.count(9), other.count(9));
        due("count(10)", x.count(10), other.count(10));
        due("refusal(0), which was 0", x.refusal(0), 1);
        due("refusal(1), which was BAD_VALUE", x.refusal(1), NOT_POSSIBLE);
    }

    @Holds("Errors: A call that returns an error or NONE changes nothing")
    static void whatTellsAndIsRefusedChangesNothing() {
        refused("text", Sentences::lived, x -> x.text(0, 0, 7), BAD_VALUE);
        refused("caption", Sentences::lived, x -> x.caption(0, 0, 0, 3), BAD_VALUE);
        refused("visitor", Sentences::lived, x -> x.visitor(6), BAD_VALUE);
        refused("shown", Sentences::lived, x -> x.shown(8, 50), UNKNOWN);
        refused("unmet", Sentences::lived, x -> x.unmet(100), BAD_VALUE);
        refused("round", Sentences::lived, x -> x.round(100, 100, 100), BAD_VALUE);
        refused("ages", Sentences::lived, x -> x.ages(0, 2, 0), UNKNOWN);
        refused("count", Sentences::lived, x -> x.count(11), BAD_VALUE);
        refused("refusal", Sentences::lived, x -> x.refusal(2), BAD_VALUE);
    }

    @Holds("Errors: A call that returns an error or NONE changes nothing")
    static void farArgumentsAreRefusedInAnyState() {
        for (int far : FAR) {
            farArguments(far, Sentences::nothing);
            farArguments(far, Sentences::lived);
        }
    }

    private static void farArguments(int far, Consumer<Carousel> story) {
        Carousel x = after(story);
        int[] answers = {
            x.addText(far, far, far, far, far), x.removeText(far, far), x.setFacts(far, far, far),
            x.addCaption(far, far, far, far), x.refusal(far), x.enter(far, far, far), x.touch(far),
            x.setTurning(far), x.text(far, far, far), x.caption(far, far, far, far), x.visitor(far),
            x.shown(far, far), x.unmet(far), x.round(far, far, far), x.ages(far, far, far), x.count(far)
        };
        for (int call = 0; call < answers.length; call++) {
            Check.holds("call " + call + " with " + far + " is refused", answers[call] < 0);
        }
        Check.same("a look after calls with " + far, Look.at(x), Look.at(after(story)));
    }
}
