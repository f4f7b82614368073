import java.util.function.Consumer;
import java.util.function.ToIntFunction;

/** What the tests of single sentences of the document share. */
abstract class Sentences {
    static final int UNKNOWN = -1;
    static final int BAD_VALUE = -2;
    static final int FULL = -3;
    static final int NOT_POSSIBLE = -4;
    static final int NONE = -5;
    static final int ALL_FACTS = 65535;

    /** What may follow a refused call; it must tell the same as without that call. */
    private static final int AFTERWARDS = 7;
    private static final int RESTORE = 5;
    private static final int READ_ENTRIES = 6;

    /** A call with one argument that is varied. */
    interface Call {
        int on(Carousel x, int value);
    }

    static Carousel after(Consumer<Carousel> story) {
        Carousel x = new Carousel();
        story.accept(x);
        return x;
    }

    static void due(String call, int got, int want) {
        Check.due(call, got, want);
    }

    // ---- ranges

    /**
     * The edges of a range on both sides: the last values that are allowed are not refused, the first ones that
     * aren't are, and so are the ends of int; what is refused changes nothing.
     */
    static void range(String name, Consumer<Carousel> story, Call call, int least, int greatest, int error) {
        Check.holds(name + " " + least + " is allowed", call.on(after(story), least) >= 0);
        Check.holds(name + " " + greatest + " is allowed", call.on(after(story), greatest) >= 0);
        for (int value : new int[] {least - 1, greatest + 1, Integer.MIN_VALUE, Integer.MAX_VALUE}) {
            refused(name + " " + value, story, x -> call.on(x, value), error);
        }
    }

    // ---- calls that are refused

    /** A call that answers an error or NONE, and a look afterwards that nothing has changed. */
    static void refused(String name, Consumer<Carousel> story, ToIntFunction<Carousel> call, int error) {
        Check.holds(name + " is to be refused", error < 0);
        changesNothing(name, story, call, error);
    }

    /** A call that answers this and leaves everything as it was, the history and the snapshot too. */
    static void changesNothing(String name, Consumer<Carousel> story, ToIntFunction<Carousel> call, int want) {
        for (int next = 0; next < AFTERWARDS; next++) {
            Carousel asked = after(story);
            Carousel other = after(story);
            due(name, call.applyAsInt(asked), want);
            String then = name + ", then " + (next < RESTORE ? "undo() " + next + " times"
                : next == RESTORE ? "restore()" : "readEntries()");
            due(then, goOn(asked, next), goOn(other, next));
            Check.same("a look after " + then, Look.at(asked), Look.at(other));
        }
    }

    private static int goOn(Carousel x, int next) {
        if (next == RESTORE) {
            return x.restore();
        }
        if (next == READ_ENTRIES) {
            return x.readEntries();
        }
        int answer = 0;
        for (int times = 0; times < next; times++) {
            answer = x.undo();
        }
        return answer;
    }

    // ---- acts

    /** A call that is done records the one state that was before it, and undo() brings that back whole. */
    static void isAnAct(String call, Consumer<Carousel> story, ToIntFunction<Carousel> act) {
        Carousel before = after(story);
        Carousel x = after(story);
        int states = before.count(9);
        Check.holds(call + " is done", act.applyAsInt(x) >= 0);
        due("count(9) after " + call, x.count(9), Math.min(states + 1, 4));
        due("undo() of " + call, x.undo(), Math.min(states, 3));
        Check.same("undo() of " + call, Look.atState(x), Look.atState(before));
        x.undo();
        before.undo();
        Check.same("one more undo() after " + call, Look.atState(x), Look.atState(before));
    }

    // ---- stories: what happened before the call that is looked at

    static void nothing(Carousel x) {
    }

    /** Some of everything: texts, captions, a visitor who read, a full history, a snapshot, a refusal and a pad. */
    static void lived(Carousel x) {
        x.addText(0, 60, 10, 0, 7);
        x.addCaption(0, 0, 5, 2);
        x.addCaption(0, 0, 6, 0);
        x.addText(0, 100, 5, 10, 56);
        x.addText(7, 20, 2, 0, 4097);
        x.keep();
        x.enter(10, 100, 500);
        x.touch(0);
        x.setTurning(9);
        Check.type(x, "0:0/1/0=a");
        x.readEntries();
        x.clearPad();
        Check.type(x, "3:9/1/0=bp");
        x.turn(true);
        x.turn(false);
    }

    /** A text at each exhibit, with a caption. */
    static void everywhere(Carousel x) {
        for (int exhibit = 0; exhibit < 8; exhibit++) {
            x.addText(exhibit, 20 + exhibit, 2, 0, ALL_FACTS);
            x.addCaption(exhibit, 0, 1 + exhibit, 1);
        }
    }

    /** Exhibit 3 has 5 texts of 10 to 14 words with the facts a to e, and each of these has a caption. */
    static void fiveTexts(Carousel x) {
        for (int text = 0; text < 5; text++) {
            x.addText(3, 10 + text, 1, 0, 1 << text);
            x.addCaption(3, text, 20 + text, 1 << text);
        }
    }

    /** Exhibit 3 has a text of the facts a, b, c and d with 3 captions of 1 to 3 words that tell a, b and c. */
    static void threeCaptions(Carousel x) {
        x.addText(3, 10, 1, 0, 15);
        for (int caption = 0; caption < 3; caption++) {
            x.addCaption(3, 0, 1 + caption, 1 << caption);
        }
    }
}
