import java.util.List;

/** Counts answers that are as due and prints those that are not. */
final class Check {
    private static int right = 0;
    private static int wrong = 0;
    /** What is tested, printed ahead of an answer that is not as due. */
    private static volatile String test = "";

    private Check() {
    }

    /** Begins a test that bears a name. */
    static void begin(String name) {
        test = name + ": ";
    }

    static String running() {
        return test;
    }

    static void due(String call, long got, long want) {
        if (got == want) {
            right++;
            return;
        }
        wrong++;
        System.out.println(test + call + " answered " + got + ", due is " + want);
    }

    static void holds(String what, boolean is) {
        due(what + " (1 is yes)", is ? 1 : 0, 1);
    }

    /** Two looks that must tell the same; of others the first line that differs is printed. */
    static void same(String what, List<String> got, List<String> want) {
        if (got.equals(want)) {
            right++;
            return;
        }
        int line = 0;
        while (line < Math.min(got.size(), want.size()) && got.get(line).equals(want.get(line))) {
            line++;
        }
        wrong++;
        System.out.println(test + what + ": told was " + lineOf(got, line) + ", due is " + lineOf(want, line));
    }

    private static String lineOf(List<String> look, int line) {
        return line < look.size() ? look.get(line) : "nothing more";
    }

    /** The answers of text(..) for every "what". */
    static void text(Carousel x, int exhibit, int text, int... want) {
        for (int what = 0; what < want.length; what++) {
            due("text(" + exhibit + ", " + text + ", " + what + ")", x.text(exhibit, text, what), want[what]);
        }
    }

    /** The answers of caption(..) for every "what". */
    static void caption(Carousel x, int exhibit, int text, int caption, int... want) {
        for (int what = 0; what < want.length; what++) {
            due("caption(" + exhibit + ", " + text + ", " + caption + ", " + what + ")",
                x.caption(exhibit, text, caption, what), want[what]);
        }
    }

    /** The answers of visitor(..) for every "what". */
    static void visitor(Carousel x, int... want) {
        for (int what = 0; what < want.length; what++) {
            due("visitor(" + what + ")", x.visitor(what), want[what]);
        }
    }

    /** The answers of count(..) from 0 on. */
    static void counts(Carousel x, int... want) {
        for (int what = 0; what < want.length; what++) {
            due("count(" + what + ")", x.count(what), want[what]);
        }
    }

    static void type(Carousel x, String signs) {
        for (int i = 0; i < signs.length(); i++) {
            x.type(signs.charAt(i));
        }
    }

    /** A new pad, and what reading its entries answers. */
    static void entries(Carousel x, String signs, int want) {
        x.clearPad();
        type(x, signs);
        due("readEntries() of \"" + signs + "\"", x.readEntries(), want);
    }

    /** A pad with a fault on a new object, which stays new but for the pad. */
    static void fault(String signs, int place) {
        Carousel x = new Carousel();
        entries(x, signs, -100 - place);
        counts(x, 0, 0, 0, 5, 0, 0, 0, 0, 0, 0, signs.length());
        due("refusal(1) after \"" + signs + "\"", x.refusal(1), -5);
    }

    static int right() {
        return right;
    }

    static int wrong() {
        return wrong;
    }
}
