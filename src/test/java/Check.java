/** Counts answers that are as due and prints those that are not. */
final class Check {
    private static int right = 0;
    private static int wrong = 0;

    private Check() {
    }

    static void due(String call, long got, long want) {
        if (got == want) {
            right++;
            return;
        }
        wrong++;
        System.out.println(call + " answered " + got + ", due is " + want);
    }

    static void holds(String what, boolean is) {
        due(what + " (1 is yes)", is ? 1 : 0, 1);
    }

    /** The answers of text(..) for every "what". */
    static void text(ExhibitTexts x, int exhibit, int text, int... want) {
        for (int what = 0; what < want.length; what++) {
            due("text(" + exhibit + ", " + text + ", " + what + ")", x.text(exhibit, text, what), want[what]);
        }
    }

    /** The answers of caption(..) for every "what". */
    static void caption(ExhibitTexts x, int exhibit, int text, int caption, int... want) {
        for (int what = 0; what < want.length; what++) {
            due("caption(" + exhibit + ", " + text + ", " + caption + ", " + what + ")",
                x.caption(exhibit, text, caption, what), want[what]);
        }
    }

    /** The answers of visitor(..) for every "what". */
    static void visitor(ExhibitTexts x, int... want) {
        for (int what = 0; what < want.length; what++) {
            due("visitor(" + what + ")", x.visitor(what), want[what]);
        }
    }

    /** The answers of count(..) from 0 on. */
    static void counts(ExhibitTexts x, int... want) {
        for (int what = 0; what < want.length; what++) {
            due("count(" + what + ")", x.count(what), want[what]);
        }
    }

    static void type(ExhibitTexts x, String signs) {
        for (int i = 0; i < signs.length(); i++) {
            x.type(signs.charAt(i));
        }
    }

    /** A new pad, and what reading its entries answers. */
    static void entries(ExhibitTexts x, String signs, int want) {
        x.clearPad();
        type(x, signs);
        due("readEntries() of \"" + signs + "\"", x.readEntries(), want);
    }

    static int right() {
        return right;
    }

    static int wrong() {
        return wrong;
    }
}
