import java.util.function.Consumer;

/** The sentences on texts of entries, and promises 6, 7, 13 and 14. */
final class EntrySentences extends Sentences {
    /** 60 signs: six entries, the last one ends with the last sign. */
    private static final String WHOLE = "7:1/1/0=a;7:2/1/0=b;7.0+1=;7.1+2=;7:3/1/0=c;7:4/1/0=abcdefgh";

    private EntrySentences() {
    }

    private static Consumer<Carousel> typed(String signs) {
        return x -> Check.type(x, signs);
    }

    /** A pad without a fault, whose entries are all done on a carousel with a text of all facts at each exhibit. */
    private static void done(String signs, int entries) {
        Check.entries(after(Sentences::everywhere), signs, entries);
    }

    /** A pad without a fault of which an entry is refused on a new carousel. */
    private static void refusedEntry(String signs, int entry, int error) {
        Carousel x = new Carousel();
        Check.entries(x, signs, NOT_POSSIBLE);
        due("refusal(0) of " + signs, x.refusal(0), entry);
        due("refusal(1) of " + signs, x.refusal(1), error);
        due("texts after " + signs, x.count(0), 0);
    }

    /** A pad that has no fault, whatever becomes of its entries. */
    private static void noFault(String signs) {
        Carousel x = new Carousel();
        Check.type(x, signs);
        Check.holds("the pad " + signs + " has no fault", x.readEntries() > -100);
    }

    // ---- the pad

    @Holds({"Texts of entries: There is a pad of at most 60 characters", "Promise 13: FULL if it has 60 characters"})
    static void thePadHasAtMost60Characters() {
        Carousel x = new Carousel();
        Check.type(x, WHOLE.substring(0, 59));
        due("type, the 60th character", x.type(WHOLE.charAt(59)), 60);
        due("type, the 61st character", x.type(';'), FULL);
        due("count(10)", x.count(10), 60);
        refused("type, the 61st character", typed(WHOLE), y -> y.type('0'), FULL);
    }

    @Holds({"Texts of entries: There is a pad of at most 60 characters", "Promise 13: FULL if it has 60 characters"})
    static void aFullPadHasRoomAgainWhenItIsEmptied() {
        Carousel x = after(typed(WHOLE));
        x.clearPad();
        Check.type(x, WHOLE);
        due("count(10)", x.count(10), 60);
        due("type, the 61st character", x.type('0'), FULL);
    }

    @Holds("Texts of entries: There is a pad of at most 60 characters")
    static void aPadOf60CharactersIsReadToItsEnd() {
        Carousel x = after(typed(WHOLE));
        due("readEntries()", x.readEntries(), 6);
        Check.text(x, 7, 3, 4, 1, 0, 255);
        Check.fault(WHOLE.substring(0, 59) + "a", 59);
        Check.fault(WHOLE.substring(0, 59) + ";", 60);
    }

    @Holds("Texts of entries: empty at first")
    static void thePadIsEmptyAtFirst() {
        due("count(10)", new Carousel().count(10), 0);
        due("clearPad()", new Carousel().clearPad(), 0);
        due("type, the first character", new Carousel().type('0'), 1);
    }

    @Holds("Promise 13: Types a character behind the pad.")
    static void charactersAreTypedOneBehindTheOther() {
        Carousel x = new Carousel();
        Check.type(x, "2:12/3/4=ce");
        x.readEntries();
        Check.text(x, 2, 0, 12, 3, 4, 20);
        Check.type(x, ";2.0+5=e");
        due("readEntries() of what is longer", x.readEntries(), 2);
        Check.caption(x, 2, 1, 0, UNKNOWN);
        Check.caption(x, 2, 0, 0, 5, 16, 0);
    }

    @Holds("Promise 13: `character`: any character")
    static void anyCharacterIsTyped() {
        Carousel x = new Carousel();
        int length = 0;
        for (char character : new char[] {0, 1, ' ', 'Z', 127, 128, 255, 256, 8364, 55296, 57343, 65534, 65535}) {
            length++;
            due("type((char) " + (int) character + ")", x.type(character), length);
        }
        due("count(10)", x.count(10), length);
    }

    @Holds("Promise 13: Returns the length of the pad then")
    static void typeTellsTheLengthThen() {
        Carousel x = new Carousel();
        for (int length = 1; length <= 60; length++) {
            due("type", x.type('x'), length);
            due("count(10)", x.count(10), length);
        }
    }

    @Holds("Promise 14: Empties the pad.")
    static void clearPadEmptiesThePad() {
        for (String signs : new String[] {"", "0", "0:1/1/0=a", WHOLE}) {
            Carousel x = after(typed(signs));
            x.clearPad();
            due("count(10)", x.count(10), 0);
            due("readEntries()", x.readEntries(), -100);
            due("type", x.type('0'), 1);
            due("readEntries()", x.readEntries(), -101);
        }
    }

    @Holds("Promise 14: Returns the length that it had")
    static void clearPadTellsTheLengthThatItHad() {
        due("clearPad() of none", new Carousel().clearPad(), 0);
        due("clearPad() of 1", after(typed("x")).clearPad(), 1);
        due("clearPad() of 59", after(typed(WHOLE.substring(1))).clearPad(), 59);
        due("clearPad() of 60", after(typed(WHOLE)).clearPad(), 60);
        due("clearPad() of 60, after more was typed", after(typed(WHOLE + "1")).clearPad(), 60);
        Carousel x = after(typed(WHOLE));
        x.clearPad();
        due("clearPad() again", x.clearPad(), 0);
    }

    // ---- one or more entries

    @Holds("Texts of entries: A pad of entries is one or more entries")
    static void thereIsAtLeastOneEntry() {
        Check.fault("", 0);
        done("0:1/1/0=a", 1);
        done("0.0+1=", 1);
        done("0:1/1/0=a;1:1/1/0=a", 2);
        done("0.0+1=;1.0+1=;2.0+1=;3.0+1=;4.0+1=;5.0+1=;6.0+1=;7.0+1=", 8);
    }

    @Holds("Texts of entries: with \";\" between two")
    static void aSemicolonStandsBetweenTwoEntries() {
        done("0:1/1/0=a;0:1/1/0=b;0.0+1=;0:1/1/0=c", 4);
        Check.fault("0:1/1/0=a0:1/1/0=b", 9);
        Check.fault("0:1/1/0=a,0:1/1/0=b", 9);
        Check.fault("0:1/1/0=a:0:1/1/0=b", 9);
        Check.fault("0.0+1=0.0+1=", 6);
        Check.fault("0.0+1=a0.0+1=", 7);
        Check.fault("0:1/1/0=a;;0:1/1/0=b", 10);
        Check.fault(";0:1/1/0=a", 0);
    }

    @Holds("Texts of entries: with \";\" between two")
    static void aSemicolonBehindTheLastEntryEndsTooEarly() {
        Check.fault("0:1/1/0=a;", 10);
        Check.fault("0.0+1=;", 7);
        Check.fault("0.0+1=;0:1/1/0=a;", 17);
    }

    // ---- an entry of a text

    @Holds("Texts of entries: An entry of a text is an exhibit (0 to 7)")
    static void anEntryOfATextBeginsWithAnExhibit() {
        done("0:1/1/0=a", 1);
        done("7:1/1/0=a", 1);
        Check.fault("8:1/1/0=a", 0);
        Check.fault("9:1/1/0=a", 0);
        Check.fault("/:1/1/0=a", 0);
        Check.fault(":1/1/0=a", 0);
        Check.fault("a:1/1/0=a", 0);
        Check.fault("-1:1/1/0=a", 0);
        Check.fault("00:1/1/0=a", 1);
        Check.fault("07:1/1/0=a", 1);
        Check.fault("10:1/1/0=a", 1);
    }

    @Holds("Texts of entries: \":\", words, \"/\", sentences, \"/\", long words, \"=\"")
    static void eachSignOfATextStandsAtItsPlace() {
        for (String other : new String[] {"/", "=", ";", "+", "a", " ", "9"}) {
            Check.fault("0" + other + "1/1/0=a", 1);
        }
        for (String other : new String[] {":", "=", ";", ".", "+", "a", " "}) {
            Check.fault("0:12" + other + "1/0=a", 4);
            Check.fault("0:12/3" + other + "0=a", 6);
        }
        for (String other : new String[] {":", "/", ";", ".", "+", "a", " "}) {
            Check.fault("0:12/3/1" + other + "a", 8);
        }
    }

    @Holds("Texts of entries: \":\", words, \"/\", sentences, \"/\", long words, \"=\"")
    static void eachNumberOfATextHasADigit() {
        Check.fault("0:/1/0=a", 2);
        Check.fault("0:1//0=a", 4);
        Check.fault("0:1/1/=a", 6);
    }

    @Holds("Texts of entries: one or more letters from a to p")
    static void aTextHasOneOrMoreLetters() {
        Check.fault("0:1/1/0=", 8);
        Check.fault("0:1/1/0=;0:1/1/0=a", 8);
        done("0:1/1/0=a", 1);
        done("0:1/1/0=p", 1);
        done("0:1/1/0=abcdefghijklmnop", 1);
        Check.fault("0:1/1/0=`", 8);
        Check.fault("0:1/1/0=q", 8);
        Check.fault("0:1/1/0=A", 8);
        Check.fault("0:1/1/0=P", 8);
        Check.fault("0:1/1/0=0", 8);
        Check.fault("0:1/1/0=aq", 9);
        Check.fault("0:1/1/0=abcdefghijklmnopq", 24);
        Check.fault("0:1/1/0=" + (char) ('a' + 256), 8);
    }

    @Holds("Texts of entries: each one behind the one ahead of it in the alphabet")
    static void theLettersAreInTheOrderOfTheAlphabet() {
        done("0:1/1/0=ab", 1);
        done("0:1/1/0=ap", 1);
        done("0:1/1/0=op", 1);
        Check.fault("0:1/1/0=aa", 9);
        Check.fault("0:1/1/0=pp", 9);
        Check.fault("0:1/1/0=ba", 9);
        Check.fault("0:1/1/0=po", 9);
        Check.fault("0:1/1/0=acb", 10);
        Check.fault("0:1/1/0=abcdefghijklmnopa", 24);
    }

    // ---- an entry of a caption

    @Holds("Texts of entries: An entry of a caption is an exhibit, \".\"")
    static void anEntryOfACaptionBeginsWithAnExhibit() {
        done("0.0+1=", 1);
        done("7.0+1=", 1);
        Check.fault("8.0+1=", 0);
        Check.fault("9.0+1=", 0);
        Check.fault("/.0+1=", 0);
        Check.fault(".0+1=", 0);
        Check.fault("00.0+1=", 1);
        Check.fault("0,0+1=", 1);
    }

    @Holds("Texts of entries: a text (0 to 4)")
    static void anEntryOfACaptionNamesAText() {
        Carousel x = after(Sentences::fiveTexts);
        Check.entries(x, "3.0+1=;3.1+1=;3.2+1=;3.3+1=;3.4+1=", 5);
        Check.fault("3.5+1=", 2);
        Check.fault("3.9+1=", 2);
        Check.fault("3./+1=", 2);
        Check.fault("3.+1=", 2);
        Check.fault("3.00+1=", 3);
        Check.fault("3.04+1=", 3);
        Check.fault("3.10+1=", 3);
        Check.fault("3.41+1=", 3);
    }

    @Holds("Texts of entries: \"+\", words (1 to 30), \"=\", and letters likewise")
    static void eachSignOfACaptionStandsAtItsPlace() {
        for (String other : new String[] {":", "/", "=", ";", ".", "a", " "}) {
            Check.fault("0.0" + other + "1=", 3);
        }
        for (String other : new String[] {":", "/", "+", ";", ".", "a", " "}) {
            Check.fault("0.0+12" + other, 6);
            Check.fault("0.0+30" + other, 6);
        }
        Check.fault("0.0+=", 4);
    }

    @Holds({"Texts of entries: words (1 to 30), \"=\"", "Texts of entries: a caption's words are 1 to 30"})
    static void aCaptionInThePadHas1To30Words() {
        for (int words = 1; words <= 30; words++) {
            Carousel x = after(Sentences::everywhere);
            Check.entries(x, "5.0+" + words + "=p", 1);
            Check.caption(x, 5, 0, 1, words, 32768, 0);
        }
        Check.fault("5.0+0=p", 4);
        Check.fault("5.0+01=p", 4);
        Check.fault("5.0+31=p", 5);
        Check.fault("5.0+39=p", 5);
        Check.fault("5.0+40=p", 5);
        Check.fault("5.0+99=p", 5);
        Check.fault("5.0+100=p", 6);
        Check.fault("5.0+290=p", 6);
        Check.fault("5.0+300=p", 6);
    }

    @Holds("Texts of entries: and letters likewise, or none")
    static void aCaptionHasLettersOrNone() {
        done("0.0+1=", 1);
        done("0.0+1=;0.0+2=", 2);
        done("0.0+1=a", 1);
        done("0.0+1=p", 1);
        done("0.0+1=abcdefghijklmnop", 1);
        Check.fault("0.0+1=`", 6);
        Check.fault("0.0+1=q", 6);
        Check.fault("0.0+1=A", 6);
        Check.fault("0.0+1=aa", 7);
        Check.fault("0.0+1=ba", 7);
        Check.fault("0.0+1=acb", 8);
        Check.fault("0.0+1=0", 6);
    }

    // ---- numbers

    @Holds("Texts of entries: Numbers of words, sentences and long words are 0 to 999")
    static void numbersAre0To999() {
        noFault("0:0/0/0=a");
        noFault("0:999/999/999=a");
        noFault("0:10/100/109=a");
        refusedEntry("0:0/1/0=a", 0, BAD_VALUE);
        refusedEntry("0:999/1/0=a", 0, BAD_VALUE);
        refusedEntry("0:9/0/0=a", 0, BAD_VALUE);
        refusedEntry("0:9/999/0=a", 0, BAD_VALUE);
        refusedEntry("0:9/1/999=a", 0, BAD_VALUE);
        Check.fault("0:/0/0=a", 2);
        Check.fault("0:-1/0/0=a", 2);
    }

    @Holds("Texts of entries: without a zero in front unless it is the single digit 0")
    static void noZeroStandsInFrontOfANumber() {
        done("0:1/1/0=a", 1);
        Check.fault("0:00/1/0=a", 3);
        Check.fault("0:01/1/0=a", 3);
        Check.fault("0:099/1/0=a", 3);
        Check.fault("0:1/00/0=a", 5);
        Check.fault("0:1/01/0=a", 5);
        Check.fault("0:1/1/00=a", 7);
        Check.fault("0:1/1/01=a", 7);
        noFault("0:100/10/20=a");
    }

    @Holds("Texts of entries: a digit is not allowed by which a number would be greater")
    static void noDigitMakesANumberGreaterThanItMayBe() {
        Check.fault("0:1000/1/0=a", 5);
        Check.fault("0:9999/1/0=a", 5);
        Check.fault("0:1/1000/0=a", 7);
        Check.fault("0:1/9990/0=a", 7);
        Check.fault("0:1/1/1000=a", 9);
        Check.fault("0:1/1/9999=a", 9);
        Check.fault("0.0+31=", 5);
        Check.fault("0.0+301=", 6);
        Check.fault("0:12345678901234567890/1/0=a", 5);
        Check.fault("0.0+12345678901234567890=", 6);
    }

    // ---- the fault

    @Holds({"Texts of entries: The fault of the pad is the index, from 0, of the first character that is not allowed",
        "Promise 6: -100 minus the fault of the pad if it has one (which is an error)"})
    static void theFaultIsTheIndexOfTheFirstCharacterThatIsNotAllowed() {
        Check.fault("x", 0);
        Check.fault("xx", 0);
        Check.fault("0x", 1);
        Check.fault("0xx", 1);
        Check.fault("0:1/1/0=ax:1/1/0=q", 9);
        Check.fault("0:1/1/0=a;0:1/1/0=qq", 18);
        Check.fault("0:1/1/0=a;8:01/1/0=a", 10);
        Check.fault("0:1/1/0=a;0.0+1=;0.0+0=", 21);
        Check.fault("0:1/1/0=a" + (char) 0, 9);
        Check.fault((char) 65535 + ":1/1/0=a", 0);
        Check.fault((char) 0x660 + ":1/1/0=a", 0);
        Check.fault((char) ('0' + 256) + ":1/1/0=a", 0);
    }

    @Holds("Texts of entries: or its length if it ends too early")
    static void aTextThatEndsTooEarlyHasItsFaultAtTheLength() {
        String whole = "7:300/50/120=";
        for (int length = 1; length <= whole.length(); length++) {
            Check.fault(whole.substring(0, length), length);
            Check.fault("0:1/1/0=a;" + whole.substring(0, length), 10 + length);
        }
        done(whole + "a", 1);
    }

    @Holds("Texts of entries: or its length if it ends too early")
    static void aCaptionThatEndsTooEarlyHasItsFaultAtTheLength() {
        String whole = "7.0+30=";
        for (int length = 1; length < whole.length(); length++) {
            Check.fault(whole.substring(0, length), length);
            Check.fault("7.0+1=;" + whole.substring(0, length), 7 + length);
        }
        done(whole, 1);
    }

    @Holds("Texts of entries: (the empty pad does)")
    static void theEmptyPadEndsTooEarly() {
        due("readEntries() of a new carousel", new Carousel().readEntries(), -100);
        Carousel x = after(typed("0:1/1/0=a"));
        x.clearPad();
        due("readEntries() of an emptied pad", x.readEntries(), -100);
        refused("readEntries() of an empty pad", y -> {
            lived(y);
            y.clearPad();
        }, Carousel::readEntries, -100);
    }

    @Holds("Promise 6: -100 minus the fault of the pad if it has one (which is an error)")
    static void aFaultChangesNothing() {
        Consumer<Carousel> story = x -> {
            lived(x);
            Check.type(x, ";0:1/1/0=a;1");
        };
        refused("readEntries() with a fault at the end", story, Carousel::readEntries, -100 - 22);
        Consumer<Carousel> none = typed("0:1/1/0=a;0.0+1=q");
        refused("readEntries() with a fault before any refusal", none, Carousel::readEntries, -100 - 16);
    }

    @Holds("Promise 6: -100 minus the fault of the pad if it has one (which is an error)")
    static void theLastFaultThereCanBe() {
        Check.fault(WHOLE.substring(0, 59) + ":", 59);
        Check.fault(WHOLE.substring(0, 59) + ";", 60);
    }

    // ---- promise 6

    @Holds("Promise 6: Does the entries of the pad, which stays")
    static void thePadStays() {
        Carousel x = after(typed("1:9/1/0=a"));
        x.readEntries();
        due("count(10)", x.count(10), 9);
        due("once more", x.readEntries(), 1);
        Check.text(x, 1, 1, 9, 1, 0, 1);
        Check.entries(x, "1.7+1=", -102);
        due("count(10) after a fault", x.count(10), 6);
        Check.entries(x, "1.4+1=", NOT_POSSIBLE);
        due("count(10) after a refusal", x.count(10), 6);
    }

    @Holds("Promise 6: one after the other (as addText() and addCaption() do)")
    static void entriesAreDoneAsAddTextAndAddCaptionDo() {
        Carousel x = new Carousel();
        Check.entries(x, "2:30/3/2=ac;2.0+4=c;2:31/50/0=b", NOT_POSSIBLE);
        Check.entries(x, "2:300/50/299=ac;2.0+30=c;2:31/31/1=b;2.1+1=", 4);
        Carousel y = new Carousel();
        y.addText(2, 300, 50, 299, 5);
        y.addCaption(2, 0, 30, 4);
        y.addText(2, 31, 31, 1, 2);
        y.addCaption(2, 1, 1, 0);
        Check.same("entries and methods", Look.atState(x), Look.atState(y));
    }

    @Holds("Promise 6: one after the other (as addText() and addCaption() do)")
    static void aCaptionMayBelongToATextOfTheSamePad() {
        Check.entries(new Carousel(), "4:9/1/0=ab;4.0+1=b", 2);
        refusedEntry("4.0+1=b;4:9/1/0=ab", 0, UNKNOWN);
    }

    @Holds("Promise 6: all of them, or none")
    static void ofEntriesWithARefusedOneNoneIsDone() {
        String[] pads = {"0:0/1/0=a", "3:9/1/0=b;3.0+1=c", "3:9/1/0=b;3.0+1=;3.0+2=b;4.0+1=", "0.0+1=;0.0+2=;0.0+3=c"};
        for (String pad : pads) {
            changesTheRefusalAlone(pad);
        }
    }

    private static void changesTheRefusalAlone(String pad) {
        Consumer<Carousel> story = x -> {
            lived(x);
            x.clearPad();
            Check.type(x, pad);
        };
        for (int undone = 0; undone <= 4; undone++) {
            Carousel asked = after(story);
            due("readEntries() of " + pad, asked.readEntries(), NOT_POSSIBLE);
            Carousel other = after(story);
            for (int times = 0; times < undone; times++) {
                due("undo()", asked.undo(), other.undo());
            }
            Check.same("the state after " + pad, Look.atState(asked), Look.atState(other));
            due("count(9)", asked.count(9), other.count(9));
            due("count(10)", asked.count(10), other.count(10));
            due("restore()", asked.restore(), other.restore());
            Check.same("the snapshot after " + pad, Look.atState(asked), Look.atState(other));
        }
    }

    @Holds("Promise 6: This is one act.")
    static void readEntriesIsOneAct() {
        isAnAct("readEntries()", typed("0:1/1/0=a"), Carousel::readEntries);
        isAnAct("readEntries()", typed(WHOLE), Carousel::readEntries);
        isAnAct("readEntries()", Sentences::lived, Carousel::readEntries);
        Carousel x = after(typed(WHOLE));
        x.readEntries();
        due("count(9) after 6 entries", x.count(9), 1);
        due("undo() of 6 entries", x.undo(), 0);
        due("count(0)", x.count(0), 0);
    }

    @Holds("Promise 6: Returns how many entries there are")
    static void readEntriesTellsHowManyEntriesThereAre() {
        done("0:1/1/0=a", 1);
        done("0:1/1/0=a;0:1/1/0=a;0.2+1=", 3);
        done("0.0+1=;1.0+1=;2.0+1=;3.0+1=;4.0+1=;5.0+1=;6.0+1=;7.0+1=", 8);
    }

    @Holds("Promise 6: NOT_POSSIBLE if any entry is refused when its turn comes")
    static void anEntryIsRefusedAsTheMethodWouldRefuseIt() {
        refusedEntry("0:0/0/0=a", 0, BAD_VALUE);
        refusedEntry("0:301/1/0=a", 0, BAD_VALUE);
        refusedEntry("0:51/51/0=a", 0, BAD_VALUE);
        refusedEntry("0:9/10/0=a", 0, BAD_VALUE);
        refusedEntry("0:9/1/10=a", 0, BAD_VALUE);
        refusedEntry("0.0+1=", 0, UNKNOWN);
        refusedEntry("0:9/1/0=a;0.1+1=", 1, UNKNOWN);
        refusedEntry("0:9/1/0=a;1.0+1=", 1, UNKNOWN);
        refusedEntry("0:9/1/0=a;0.0+1=b", 1, NOT_POSSIBLE);
        refusedEntry("0:9/1/0=b;0.0+1=;0.0+1=;0.0+1=;0.0+1=", 4, FULL);
    }

    @Holds("Promise 6: NOT_POSSIBLE if any entry is refused when its turn comes")
    static void anEntryIsRefusedWhenItsTurnComes() {
        Carousel x = new Carousel();
        x.addText(0, 1, 1, 0, 1);
        Check.entries(x, "0:1/1/0=a;0:1/1/0=a;0:1/1/0=a;0:1/1/0=a", 4);
        x.undo();
        x.addText(0, 1, 1, 0, 1);
        due("a fifth and a sixth text", x.readEntries(), NOT_POSSIBLE);
        due("refusal(0)", x.refusal(0), 3);
        due("refusal(1)", x.refusal(1), FULL);
        due("count(0)", x.count(0), 2);
    }

    // ---- promise 7

    @Holds("Promise 7: 0 for the number of the entry in the pad, from 0")
    static void refusal0IsTheNumberOfTheEntry() {
        refusedEntry("1.0+1=;0:1/1/0=a", 0, UNKNOWN);
        refusedEntry("0:1/1/0=a;1.0+1=", 1, UNKNOWN);
        refusedEntry("0:1/1/0=a;0.0+1=;0.0+1=;0.0+1=;0.0+1=a;0.1+1=", 4, FULL);
        refusedEntry("1:1/1/0=a;1.0+1=;1.0+1=;1.0+1=;0.0+1=;0.0+1=", 4, UNKNOWN);
        Carousel x = new Carousel();
        x.addText(0, 9, 1, 0, 1);
        x.addText(1, 9, 1, 0, 1);
        Check.entries(x, "0.0+1=;0.0+1=;0.0+1=;1.0+1=;1.0+1=;1.0+1=;2.0+1=;0.0+1=", NOT_POSSIBLE);
        due("refusal(0)", x.refusal(0), 6);
    }

    @Holds({"Promise 7: 1 for the error that the method would have returned",
        "Promise 7: Returns the number (an error as it is, below 0)"})
    static void refusal1IsTheErrorAsItIs() {
        refusedEntry("1.0+1=", 0, UNKNOWN);
        refusedEntry("0:0/1/0=a", 0, BAD_VALUE);
        refusedEntry("0:1/1/0=a;0.0+1=;0.0+1=;0.0+1=;0.0+1=", 4, FULL);
        refusedEntry("0:1/1/0=a;0.0+1=b", 1, NOT_POSSIBLE);
    }

    @Holds("Promise 7: Tells of the latest refusal of readEntries().")
    static void theLatestRefusalReplacesTheEarlierOne() {
        Carousel x = new Carousel();
        Check.entries(x, "0:1/1/0=a;0.0+1=b", NOT_POSSIBLE);
        Check.entries(x, "0:0/1/0=a", NOT_POSSIBLE);
        due("refusal(0)", x.refusal(0), 0);
        due("refusal(1)", x.refusal(1), BAD_VALUE);
        Check.entries(x, "0:1/1/0=a;0:1/1/0=a;3.0+1=", NOT_POSSIBLE);
        due("refusal(0)", x.refusal(0), 2);
        due("refusal(1)", x.refusal(1), UNKNOWN);
    }

    @Holds("Promise 7: Tells of the latest refusal of readEntries().")
    static void theLatestRefusalIsOneOfReadEntriesAlone() {
        Carousel x = new Carousel();
        Check.entries(x, "0:1/1/0=a;0.0+1=b", NOT_POSSIBLE);
        x.addText(8, 1, 1, 0, 1);
        x.addText(0, 0, 1, 0, 1);
        x.addCaption(0, 0, 1, 0);
        Check.entries(x, "0:1/1/0=a", 1);
        Check.entries(x, "0:1/1/0=a;", -110);
        due("refusal(0)", x.refusal(0), 1);
        due("refusal(1)", x.refusal(1), NOT_POSSIBLE);
    }

    @Holds("Promise 7: BAD_VALUE")
    static void refusalTells0And1() {
        Carousel x = after(Sentences::lived);
        due("refusal(0)", x.refusal(0), 0);
        due("refusal(1)", x.refusal(1), BAD_VALUE);
        for (int what : new int[] {-1, 2, Integer.MIN_VALUE, Integer.MAX_VALUE}) {
            refused("refusal(" + what + ")", Sentences::lived, y -> y.refusal(what), BAD_VALUE);
            refused("refusal(" + what + ") before any", Sentences::nothing, y -> y.refusal(what), BAD_VALUE);
        }
    }

    @Holds("Promise 7: NONE if none was refused yet")
    static void refusalIsNoneWhereNoneWasRefusedYet() {
        refused("refusal(0)", Sentences::nothing, x -> x.refusal(0), NONE);
        refused("refusal(1)", Sentences::nothing, x -> x.refusal(1), NONE);
        refused("refusal(0) after a fault", x -> Check.entries(x, "0:1/1/0=", -108), x -> x.refusal(0), NONE);
        refused("refusal(0) after entries", x -> Check.entries(x, "0:1/1/0=a", 1), x -> x.refusal(0), NONE);
        refused("refusal(1) after another method's error", x -> x.addText(8, 1, 1, 0, 1), x -> x.refusal(1), NONE);
    }
}
