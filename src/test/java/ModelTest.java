import java.util.Random;

/** Runs of up to 512 calls, always the same ones, on the class and on the model side by side. */
final class ModelTest {
    private static final int RUNS = 12000;
    /** As many calls as the largest step and a look at the counts make. */
    private static final int STEP = 50;
    private static final int[] WILD = {
        Integer.MIN_VALUE, -101, -6, -5, -2, -1, 0, 1, 2, 3, 4, 5, 6, 7, 8, 9, 10, 11, 29, 30, 31, 50, 51, 60, 61,
        99, 100, 300, 301, 400, 401, 9999, 10000, 65535, 65536, Integer.MAX_VALUE
    };
    private static final String SIGNS = "0123456789:./=+;abcop q";

    private final Random random;
    private final Carousel x = new Carousel();
    private final Model model = new Model();
    /** How many of the exhibits are used mostly: few let them fill. */
    private final int exhibits;
    /** One argument of so many is any number at all. */
    private final int wildness;
    private String waiting = "";

    private ModelTest(long seed) {
        random = new Random(seed);
        exhibits = 1 + random.nextInt(8);
        wildness = 10 + random.nextInt(200);
    }

    static void run() {
        for (int run = 0; run < RUNS; run++) {
            Check.begin("ModelTest, run " + run);
            ModelTest test = new ModelTest(run);
            try {
                test.wholeRun();
            } catch (RuntimeException thrown) {
                Check.holds("no call threw as one did now: " + thrown, false);
            }
        }
    }

    /** Steps up to a first wrong answer, and a look with the calls that are left; about half of the runs have few. */
    private void wholeRun() {
        int wrong = Check.wrong();
        int kept = random.nextInt(2) == 0 ? 0 : random.nextInt(400);
        int step = 0;
        while (x.callsLeft() > kept + STEP) {
            step("step " + step + ": ");
            if (Check.wrong() != wrong) {
                return;
            }
            step++;
        }
        lookAtAll("after step " + step + ": ");
    }

    private int among(int least, int greatest) {
        if (random.nextInt(wildness) == 0) {
            return WILD[random.nextInt(WILD.length)];
        }
        return least + random.nextInt(Math.max(1, Math.min(greatest, 99999) - least + 1));
    }

    private int facts(int least) {
        if (random.nextInt(wildness) == 0) {
            return among(0, 65535);
        }
        int facts = random.nextInt(65536) & random.nextInt(65536);
        return Math.max(least, random.nextInt(3) == 0 ? 1 << random.nextInt(16) : facts);
    }

    private int exhibit() {
        return random.nextInt(2) == 0 ? model.count(2) : among(0, exhibits - 1);
    }

    private int words() {
        return random.nextInt(3) == 0 ? among(1, 300) : among(1, 40);
    }

    /** A caption's facts: mostly some of those of its text. */
    private int captionFacts(int exhibit, int text) {
        int all = model.text(exhibit, text, 3);
        return random.nextInt(5) == 0 ? facts(0) : Math.max(all, 0) & random.nextInt(65536);
    }

    private void step(String at) {
        if (!waiting.isEmpty()) {
            char sign = waiting.charAt(0);
            waiting = waiting.substring(1);
            Check.due(at + "type(" + (int) sign + ")", x.type(sign), model.type(sign));
            if (waiting.isEmpty()) {
                Check.due(at + "readEntries()", x.readEntries(), model.readEntries());
            }
            return;
        }
        int kind = random.nextInt(100);
        if (kind < 30) {
            changeTexts(at, kind);
        } else if (kind < 60) {
            visit(at, kind);
        } else if (kind < 70) {
            goBack(at, kind);
        } else if (kind < 74) {
            startPad(at);
        } else {
            ask(at, random.nextInt(10));
        }
    }

    private void changeTexts(String at, int kind) {
        int exhibit = exhibit();
        int text = among(0, Math.max(0, model.count(0) / 2));
        int words = words();
        if (kind < 10) {
            int sentences = among(1, Math.max(1, Math.min(words, 50)));
            int longs = random.nextInt(2) == 0 ? 0 : among(0, Math.max(1, words));
            int facts = facts(1);
            Check.due(at + "addText(" + exhibit + ", " + words + ", " + sentences + ", " + longs + ", " + facts + ")",
                x.addText(exhibit, words, sentences, longs, facts),
                model.addText(exhibit, words, sentences, longs, facts));
        } else if (kind < 12) {
            Check.due(at + "removeText(" + exhibit + ", " + text + ")",
                x.removeText(exhibit, text), model.removeText(exhibit, text));
        } else if (kind < 17) {
            int facts = random.nextInt(3) == 0 ? model.text(exhibit, text, 3) : facts(1);
            Check.due(at + "setFacts(" + exhibit + ", " + text + ", " + facts + ")",
                x.setFacts(exhibit, text, facts), model.setFacts(exhibit, text, facts));
        } else {
            int few = among(1, 30);
            int facts = captionFacts(exhibit, text);
            Check.due(at + "addCaption(" + exhibit + ", " + text + ", " + few + ", " + facts + ")",
                x.addCaption(exhibit, text, few, facts), model.addCaption(exhibit, text, few, facts));
        }
    }

    private void visit(String at, int kind) {
        if (kind < 35) {
            int age = among(4, 99);
            int pace = among(30, 400);
            int seconds = random.nextInt(2) == 0 ? among(1, 9999) : among(1, 200);
            Check.due(at + "enter(" + age + ", " + pace + ", " + seconds + ")",
                x.enter(age, pace, seconds), model.enter(age, pace, seconds));
        } else if (kind < 42) {
            int caption = among(0, 2);
            Check.due(at + "touch(" + caption + ")", x.touch(caption), model.touch(caption));
        } else if (kind < 49) {
            Check.due(at + "read()", x.read(), model.read());
        } else if (kind < 57) {
            boolean forward = random.nextInt(3) != 0;
            Check.due(at + "turn(" + forward + ")", x.turn(forward), model.turn(forward));
        } else {
            int seconds = among(0, 60);
            Check.due(at + "setTurning(" + seconds + ")", x.setTurning(seconds), model.setTurning(seconds));
        }
    }

    private void goBack(String at, int kind) {
        if (kind < 67) {
            Check.due(at + "undo()", x.undo(), model.undo());
        } else if (kind < 68) {
            Check.due(at + "keep()", x.keep(), model.keep());
        } else {
            Check.due(at + "restore()", x.restore(), model.restore());
        }
    }

    private void startPad(String at) {
        if (random.nextInt(8) != 0) {
            Check.due(at + "clearPad()", x.clearPad(), model.clearPad());
        }
        StringBuilder signs = new StringBuilder();
        int entries = 1 + random.nextInt(random.nextInt(2) == 0 ? 2 : 8);
        for (int entry = 0; entry < entries; entry++) {
            if (entry > 0) {
                signs.append(';');
            }
            addEntry(signs);
        }
        if (random.nextInt(3) == 0) {
            spoil(signs);
        }
        waiting = signs.length() > 62 ? signs.substring(0, 62) : signs.toString();
    }

    private void addEntry(StringBuilder signs) {
        int exhibit = random.nextInt(exhibits);
        signs.append(exhibit);
        int facts = facts(1);
        if (random.nextInt(2) == 0) {
            int words = 1 + random.nextInt(random.nextInt(4) == 0 ? 320 : 30);
            signs.append(':').append(words).append('/').append(random.nextInt(Math.min(words + 1, 52)))
                .append('/').append(random.nextInt(words + 1));
        } else {
            int text = random.nextInt(1 + Math.min(4, model.count(0)));
            signs.append('.').append(text).append('+').append(1 + random.nextInt(30));
            facts = captionFacts(exhibit, text);
        }
        signs.append('=');
        for (int fact = 0; fact < 16; fact++) {
            if ((facts >> fact & 1) == 1) {
                signs.append((char) ('a' + fact));
            }
        }
    }

    private void spoil(StringBuilder signs) {
        int place = random.nextInt(signs.length());
        char sign = random.nextInt(20) == 0 ? (char) random.nextInt(65536)
            : SIGNS.charAt(random.nextInt(SIGNS.length()));
        switch (random.nextInt(4)) {
            case 0:
                signs.setLength(place);
                break;
            case 1:
                signs.setCharAt(place, sign);
                break;
            case 2:
                signs.insert(place, sign);
                break;
            default:
                signs.deleteCharAt(place);
                break;
        }
        if (signs.length() == 0) {
            signs.append(sign);
        }
    }

    private void ask(String at, int kind) {
        int exhibit = exhibit();
        int text = among(0, 4);
        switch (kind) {
            case 0:
                lookAtCounts(at);
                break;
            case 1:
                lookAtText(at, exhibit, text);
                break;
            case 2:
                int caption = among(0, 2);
                lookAtCaption(at, exhibit, text, caption, among(0, 3));
                break;
            case 3:
                int visitorWhat = among(0, 6);
                Check.due(at + "visitor(" + visitorWhat + ")", x.visitor(visitorWhat), model.visitor(visitorWhat));
                break;
            case 4:
                int shownAge = among(4, 99);
                Check.due(at + "shown(" + exhibit + ", " + shownAge + ")",
                    x.shown(exhibit, shownAge), model.shown(exhibit, shownAge));
                break;
            case 5:
                int unmetAge = among(4, 99);
                Check.due(at + "unmet(" + unmetAge + ")", x.unmet(unmetAge), model.unmet(unmetAge));
                break;
            case 6:
                int age = among(4, 99);
                int pace = among(30, 400);
                int seconds = random.nextInt(2) == 0 ? among(1, 9999) : among(1, 200);
                Check.due(at + "round(" + age + ", " + pace + ", " + seconds + ")",
                    x.round(age, pace, seconds), model.round(age, pace, seconds));
                break;
            case 7:
                int agesWhat = among(0, 3);
                Check.due(at + "ages(" + exhibit + ", " + text + ", " + agesWhat + ")",
                    x.ages(exhibit, text, agesWhat), model.ages(exhibit, text, agesWhat));
                break;
            case 8:
                int countWhat = among(0, 11);
                Check.due(at + "count(" + countWhat + ")", x.count(countWhat), model.count(countWhat));
                break;
            default:
                int refusalWhat = among(0, 2);
                Check.due(at + "refusal(" + refusalWhat + ")", x.refusal(refusalWhat), model.refusal(refusalWhat));
                break;
        }
    }

    private void lookAtCounts(String at) {
        for (int what = 0; what < 12; what++) {
            Check.due(at + "count(" + what + ")", x.count(what), model.count(what));
        }
        for (int what = 0; what < 7; what++) {
            Check.due(at + "visitor(" + what + ")", x.visitor(what), model.visitor(what));
        }
        for (int what = 0; what < 3; what++) {
            Check.due(at + "refusal(" + what + ")", x.refusal(what), model.refusal(what));
        }
    }

    private void lookAtText(String at, int exhibit, int text) {
        for (int what = 0; what < 8; what++) {
            Check.due(at + "text(" + exhibit + ", " + text + ", " + what + ")",
                x.text(exhibit, text, what), model.text(exhibit, text, what));
        }
        for (int number = 0; number < 16; number++) {
            lookAtCaption(at, exhibit, text, number / 4, number % 4);
        }
    }

    private void lookAtCaption(String at, int exhibit, int text, int caption, int what) {
        Check.due(at + "caption(" + exhibit + ", " + text + ", " + caption + ", " + what + ")",
            x.caption(exhibit, text, caption, what), model.caption(exhibit, text, caption, what));
    }

    /** Looks at as much as the calls that are left allow, from any exhibit on. */
    private void lookAtAll(String at) {
        lookAtCounts(at);
        int first = random.nextInt(8);
        for (int number = 0; number < 8 * 5 && x.callsLeft() >= 24; number++) {
            int exhibit = (first + number / 5) % 8;
            int text = number % 5;
            if (model.text(exhibit, text, 0) >= 0) {
                lookAtText(at, exhibit, text);
            }
        }
    }
}
