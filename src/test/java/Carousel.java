/** The class under test with a count of the calls, since the document binds an object's first 512 answers alone. */
final class Carousel {
    static final int MOST_CALLS = 512;

    private final ExhibitTexts x = new ExhibitTexts();
    private int calls;

    /** How many calls are left of those that the document promises. */
    int callsLeft() {
        return MOST_CALLS - calls;
    }

    private ExhibitTexts called() {
        calls++;
        if (calls > MOST_CALLS) {
            Check.holds("a test asks an object at most " + MOST_CALLS + " times", false);
        }
        return x;
    }

    int addText(int exhibit, int words, int sentences, int longs, int facts) {
        return called().addText(exhibit, words, sentences, longs, facts);
    }

    int removeText(int exhibit, int text) {
        return called().removeText(exhibit, text);
    }

    int setFacts(int exhibit, int text, int facts) {
        return called().setFacts(exhibit, text, facts);
    }

    int addCaption(int exhibit, int text, int words, int facts) {
        return called().addCaption(exhibit, text, words, facts);
    }

    int readEntries() {
        return called().readEntries();
    }

    int refusal(int what) {
        return called().refusal(what);
    }

    int enter(int age, int pace, int seconds) {
        return called().enter(age, pace, seconds);
    }

    int touch(int caption) {
        return called().touch(caption);
    }

    int read() {
        return called().read();
    }

    int turn(boolean forward) {
        return called().turn(forward);
    }

    int setTurning(int seconds) {
        return called().setTurning(seconds);
    }

    int type(char character) {
        return called().type(character);
    }

    int clearPad() {
        return called().clearPad();
    }

    int undo() {
        return called().undo();
    }

    int keep() {
        return called().keep();
    }

    int restore() {
        return called().restore();
    }

    int text(int exhibit, int text, int what) {
        return called().text(exhibit, text, what);
    }

    int caption(int exhibit, int text, int caption, int what) {
        return called().caption(exhibit, text, caption, what);
    }

    int visitor(int what) {
        return called().visitor(what);
    }

    int shown(int exhibit, int age) {
        return called().shown(exhibit, age);
    }

    int unmet(int age) {
        return called().unmet(age);
    }

    int round(int age, int pace, int seconds) {
        return called().round(age, pace, seconds);
    }

    int ages(int exhibit, int text, int what) {
        return called().ages(exhibit, text, what);
    }

    int count(int what) {
        return called().count(what);
    }
}
