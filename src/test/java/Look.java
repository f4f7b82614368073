import java.util.ArrayList;
import java.util.List;

/** Everything that a carousel tells of itself, a line for each call. */
final class Look {
    private static final int HISTORY = 9;
    private static final int PAD = 10;

    private Look() {
    }

    /** All that is told. */
    static List<String> at(Carousel x) {
        List<String> told = atState(x);
        for (int what = HISTORY; what <= PAD; what++) {
            told.add("count(" + what + ") " + x.count(what));
        }
        for (int what = 0; what < 2; what++) {
            told.add("refusal(" + what + ") " + x.refusal(what));
        }
        return told;
    }

    /** What is told of the state alone: the pad, the history and the latest refusal are no part of it. */
    static List<String> atState(Carousel x) {
        List<String> told = new ArrayList<>();
        for (int what = 0; what < HISTORY; what++) {
            told.add("count(" + what + ") " + x.count(what));
        }
        for (int what = 0; what < 6; what++) {
            told.add("visitor(" + what + ") " + x.visitor(what));
        }
        for (int exhibit = 0; exhibit < 8; exhibit++) {
            for (int text = 0; x.text(exhibit, text, 0) >= 0; text++) {
                atText(x, exhibit, text, told);
            }
        }
        return told;
    }

    private static void atText(Carousel x, int exhibit, int text, List<String> told) {
        for (int what = 0; what < 7; what++) {
            told.add("text(" + exhibit + ", " + text + ", " + what + ") " + x.text(exhibit, text, what));
        }
        for (int caption = 0; x.caption(exhibit, text, caption, 0) >= 0; caption++) {
            for (int what = 0; what < 3; what++) {
                told.add("caption(" + exhibit + ", " + text + ", " + caption + ", " + what + ") "
                    + x.caption(exhibit, text, caption, what));
            }
        }
    }
}
