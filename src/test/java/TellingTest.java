/** Promises 18 to 25: what is told. */
final class TellingTest {
    private TellingTest() {
    }

    static void run() {
        text();
        caption();
        visitor();
        shown();
        shownOfEqualTexts();
        unmet();
        round();
        roundTakesTime();
        ages();
        count();
    }

    /** Promise 18. */
    private static void text() {
        Carousel x = new Carousel();
        x.addText(5, 60, 4, 13, 9);
        x.addCaption(5, 0, 4, 8);
        x.addCaption(5, 0, 5, 1);
        Check.text(x, 5, 0, 60, 4, 13, 9, 17, 2, 0, -2);
        Check.due("what -1", x.text(5, 0, -1), -2);
        Check.due("what greatest", x.text(5, 0, Integer.MAX_VALUE), -2);
        Check.due("text 1", x.text(5, 1, 0), -1);
        Check.due("text -1", x.text(5, -1, 0), -1);
        Check.due("exhibit -1", x.text(-1, 0, 0), -1);
        Check.due("exhibit 8", x.text(8, 0, 0), -1);
        Check.due("UNKNOWN before BAD_VALUE", x.text(5, 1, 7), -1);
        Check.due("text least", x.text(5, Integer.MIN_VALUE, 0), -1);
        Check.due("text greatest", x.text(5, Integer.MAX_VALUE, 0), -1);
    }

    /** Promise 19. */
    private static void caption() {
        Carousel x = new Carousel();
        x.addText(5, 60, 4, 13, 9);
        x.addText(5, 61, 4, 13, 9);
        x.addCaption(5, 0, 4, 8);
        x.addCaption(5, 0, 5, 1);
        Check.caption(x, 5, 0, 0, 4, 8, 0, -2);
        Check.caption(x, 5, 0, 1, 5, 1, 0, -2);
        Check.due("what -1", x.caption(5, 0, 0, -1), -2);
        Check.due("caption 2", x.caption(5, 0, 2, 0), -1);
        Check.due("caption -1", x.caption(5, 0, -1, 0), -1);
        Check.due("caption of another text", x.caption(5, 1, 0, 0), -1);
        Check.due("text 2", x.caption(5, 2, 0, 0), -1);
        Check.due("text -1", x.caption(5, -1, 0, 0), -1);
        Check.due("exhibit -1", x.caption(-1, 0, 0, 0), -1);
        Check.due("exhibit 8", x.caption(8, 0, 0, 0), -1);
        Check.due("UNKNOWN before BAD_VALUE", x.caption(5, 0, 2, 3), -1);
        Check.due("caption greatest", x.caption(5, 0, Integer.MAX_VALUE, 0), -1);
    }

    /** Promise 20. */
    private static void visitor() {
        Carousel x = new Carousel();
        Check.due("BAD_VALUE before NONE", x.visitor(6), -2);
        Check.due("BAD_VALUE before NONE", x.visitor(-1), -2);
        x.enter(44, 222, 1234);
        Check.visitor(x, 44, 222, 1234, 0, 0, -5, -2);
        x.addText(0, 222, 20, 0, 32769);
        x.read();
        Check.visitor(x, 44, 222, 1174, 32769, 2, 0, -2);
        Check.due("what -1", x.visitor(-1), -2);
        x.turn(true);
        Check.visitor(x, 44, 222, 1169, 32769, 2, -5);
        x.removeText(0, 0);
        x.turn(false);
        Check.visitor(x, 44, 222, 1164, 32769, 2, -5);
    }

    /** Promise 21. */
    private static void shown() {
        Carousel x = new Carousel();
        x.addText(7, 40, 1, 0, 1);
        x.addText(7, 20, 1, 0, 2);
        x.addText(7, 60, 1, 0, 4);
        Check.text(x, 7, 0, 40, 1, 0, 1, 24);
        Check.text(x, 7, 1, 20, 1, 0, 2, 14);
        Check.text(x, 7, 2, 60, 1, 0, 4, 34);
        Check.due("below all", x.shown(7, 4), 1);
        Check.due("just below the least", x.shown(7, 13), 1);
        Check.due("at the least", x.shown(7, 14), 1);
        Check.due("just below the next", x.shown(7, 23), 1);
        Check.due("at the next", x.shown(7, 24), 0);
        Check.due("just below the greatest", x.shown(7, 33), 0);
        Check.due("at the greatest", x.shown(7, 34), 2);
        Check.due("above all", x.shown(7, 99), 2);
        Check.due("age 3", x.shown(7, 3), -2);
        Check.due("age 100", x.shown(7, 100), -2);
        Check.due("exhibit 8", x.shown(8, 3), -1);
        Check.due("exhibit -1", x.shown(-1, 50), -1);
        Check.due("no text", x.shown(0, 50), -5);
        Check.due("BAD_VALUE before NONE", x.shown(0, 3), -2);
    }

    private static void shownOfEqualTexts() {
        Carousel x = new Carousel();
        x.addText(0, 42, 2, 0, 1);
        x.addText(0, 41, 2, 0, 1);
        x.addText(0, 40, 2, 0, 1);
        x.addText(0, 40, 2, 1, 1);
        x.addText(0, 21, 1, 0, 1);
        Check.due("equal levels", x.text(0, 0, 4), 14);
        Check.due("equal levels", x.text(0, 3, 4), 14);
        Check.due("the fewest words", x.shown(0, 14), 4);
        Check.due("none fits: the lowest, not the fewest words", x.shown(0, 13), 0);
        x.removeText(0, 4);
        Check.due("equal words: the lowest", x.shown(0, 99), 2);
        x.removeText(0, 2);
        Check.due("equal words: the lowest", x.shown(0, 99), 2);
        x.removeText(0, 2);
        Check.due("the fewest words", x.shown(0, 99), 1);
        x.addText(0, 1, 1, 1, 1);
        Check.due("fewer words, but a greater level that is above", x.shown(0, 33), 1);
        Check.due("a greater level that fits", x.shown(0, 34), 2);
    }

    /** Promise 22. */
    private static void unmet() {
        Carousel x = new Carousel();
        Check.due("no texts", x.unmet(4), 0);
        x.addText(0, 20, 1, 0, 3);
        x.addText(0, 40, 1, 0, 12);
        x.addText(7, 60, 1, 0, 32769);
        x.addText(7, 90, 1, 0, 17);
        Check.due("unmet", x.unmet(14), 28);
        Check.due("unmet", x.unmet(23), 28);
        Check.due("unmet", x.unmet(24), 18);
        Check.due("unmet", x.unmet(48), 18);
        Check.due("unmet", x.unmet(49), 32770);
        Check.due("unmet", x.unmet(99), 32770);
        Check.due("unmet", x.unmet(4), 28);
        Check.due("age 3", x.unmet(3), -2);
        Check.due("age 100", x.unmet(100), -2);
        x.enter(99, 400, 9999);
        x.turn(false);
        x.read();
        Check.due("what was learned is the same to it", x.unmet(14), 28);
        Carousel y = new Carousel();
        y.addText(0, 20, 1, 15, 1);
        y.addText(0, 20, 1, 1, 8);
        Check.due("what only another age is shown", y.unmet(15), 1);
        Check.due("what only another age is shown", y.unmet(50), 8);
    }

    /** Promise 23. */
    private static void round() {
        Carousel x = new Carousel();
        Check.due("no texts", x.round(4, 30, 1), 0);
        for (int exhibit = 0; exhibit < 8; exhibit++) {
            x.addText(exhibit, 20, 2, 0, 1 << exhibit);
            x.addText(exhibit, 80, 2, 0, 256 << exhibit);
        }
        x.addCaption(3, 0, 1, 0);
        Check.due("all that this age is shown", x.round(9, 400, 9999), 255);
        Check.due("all that this age is shown", x.round(99, 400, 9999), 65280);
        Check.due("age 3", x.round(3, 100, 100), -2);
        Check.due("age 100", x.round(100, 100, 100), -2);
        Check.due("pace 29", x.round(10, 29, 100), -2);
        Check.due("pace 401", x.round(10, 401, 100), -2);
        Check.due("no seconds", x.round(10, 100, 0), -2);
        Check.due("10000 seconds", x.round(10, 100, 10000), -2);
        x.turn(true);
        x.turn(true);
        Check.due("from the present exhibit on", x.round(9, 60, 70), 4 + 8 + 16);
        x.turn(false);
        x.turn(false);
        x.turn(false);
        Check.due("0 behind 7", x.round(9, 60, 70), 128 + 1 + 2);
        Check.counts(x, 16, 1, 7, 5, 0, 0, 0, 16, 16, 4);
        Check.visitor(x, -5);
    }

    /** Promise 23. */
    private static void roundTakesTime() {
        Carousel x = new Carousel();
        x.addText(0, 60, 10, 0, 1);
        x.addText(1, 120, 20, 0, 2);
        x.addText(2, 30, 10, 0, 3);
        x.addText(3, 10, 2, 0, 4);
        x.setTurning(0);
        Check.due("a text that is too long is left out", x.round(99, 60, 102), 7);
        Check.due("a text without a new fact takes no time", x.round(99, 60, 190), 7);
        Check.due("one second less", x.round(99, 60, 189), 3);
        Check.due("just the first", x.round(99, 60, 60), 1);
        Check.due("not the first", x.round(99, 60, 59), 7);
        Check.due("too little for any", x.round(99, 60, 9), 0);
        x.setTurning(60);
        Check.due("turning takes time", x.round(99, 60, 59), 0);
        Check.due("turning takes time", x.round(99, 60, 209), 1);
        Check.due("turning takes time", x.round(99, 60, 210), 3);
        Check.due("turning takes time", x.round(99, 60, 369), 3);
        Check.due("turning takes time", x.round(99, 60, 370), 7);
        x.enter(99, 60, 60);
        x.read();
        Check.due("another visitor knows nothing", x.round(99, 60, 60), 1);
        Check.visitor(x, 99, 60, 0, 1, 1, 0);
        Check.counts(x, 4, 0, 0, 60, 1, 1, 0, 3, 3);
        x.addText(7, 10, 1, 0, 65535);
        Check.due("seven turns", x.round(99, 400, 9999), 65535);
    }

    /** Promise 24. */
    private static void ages() {
        Carousel x = new Carousel();
        x.addText(6, 40, 1, 0, 1);
        x.addText(6, 20, 1, 0, 2);
        x.addText(6, 300, 1, 0, 4);
        x.addText(6, 40, 1, 0, 8);
        three(x, 0, 24, 99, 76);
        three(x, 1, 4, 23, 20);
        three(x, 2, -5, -5, 0);
        three(x, 3, -5, -5, 0);
        Check.due("what 3", x.ages(6, 0, 3), -2);
        Check.due("what -1", x.ages(6, 2, -1), -2);
        Check.due("text 4", x.ages(6, 4, 3), -1);
        Check.due("text -1", x.ages(6, -1, 0), -1);
        Check.due("exhibit 8", x.ages(8, 0, 0), -1);
        Check.due("exhibit -1", x.ages(-1, 0, 0), -1);
        x.addText(0, 300, 1, 0, 1);
        Check.due("the only text", x.ages(0, 0, 0), 4);
        Check.due("the only text", x.ages(0, 0, 1), 99);
        Check.due("the only text", x.ages(0, 0, 2), 96);
        x.addText(1, 21, 1, 0, 1);
        x.addText(1, 20, 1, 0, 1);
        Check.due("below both: the lowest", x.ages(1, 0, 1), 13);
        Check.due("from there the fewest words", x.ages(1, 1, 0), 14);
        x.addText(2, 1, 1, 0, 1);
        x.addText(2, 190, 1, 0, 1);
        Check.due("only the greatest age", x.ages(2, 1, 0), 99);
        Check.due("only the greatest age", x.ages(2, 1, 2), 1);
        Check.due("all but the greatest age", x.ages(2, 0, 1), 98);
    }

    private static void three(Carousel x, int text, int least, int greatest, int number) {
        Check.due("ages(6, " + text + ", 0)", x.ages(6, text, 0), least);
        Check.due("ages(6, " + text + ", 1)", x.ages(6, text, 1), greatest);
        Check.due("ages(6, " + text + ", 2)", x.ages(6, text, 2), number);
    }

    /** Promise 25. */
    private static void count() {
        Carousel x = new Carousel();
        Check.due("what -1", x.count(-1), -2);
        Check.due("what 11", x.count(11), -2);
        Check.due("what greatest", x.count(Integer.MAX_VALUE), -2);
        x.addText(0, 60, 10, 0, 3);
        x.addText(1, 60, 10, 0, 6);
        x.addText(1, 90, 10, 0, 32768);
        x.addText(7, 60, 10, 0, 2);
        x.addCaption(7, 0, 1, 2);
        x.addCaption(0, 0, 1, 0);
        x.addCaption(0, 0, 1, 1);
        Check.counts(x, 4, 3, 0, 5, 0, 0, 0, 4, 4, 4, 0);
        x.enter(7, 400, 9999);
        x.touch(0);
        x.touch(1);
        x.turn(true);
        x.read();
        x.enter(7, 400, 9999);
        x.read();
        Check.type(x, "abc");
        Check.counts(x, 4, 3, 1, 5, 2, 3, 2, 2, 4, 4, 3);
        Check.due("a text that was read twice", x.text(1, 0, 6), 2);
        x.removeText(1, 0);
        x.removeText(0, 0);
        Check.counts(x, 2, 1, 1, 5, 2, 3, 2, 2, 2, 4, 3);
        x.setTurning(31);
        Check.counts(x, 2, 1, 1, 31, 2, 3, 2, 2, 2, 4, 3, -2);
    }
}
