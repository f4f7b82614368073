/**
 * A carousel of eight exhibits with texts for readers of several ages, the captions of these texts,
 * and one visitor at a time who is shown texts, touches captions, reads and learns facts.
 */
public final class ExhibitTexts {
    /** There is no such exhibit, text or caption. */
    public static final int UNKNOWN = -1;
    /** Another argument is out of range. */
    public static final int BAD_VALUE = -2;
    /** There is no more room. */
    public static final int FULL = -3;
    /** This is not possible. */
    public static final int NOT_POSSIBLE = -4;
    /** There is no such thing; not an error. */
    public static final int NONE = -5;

    private static final int EXHIBITS = 8;
    private static final int MOST_TEXTS = 5;
    private static final int MOST_CAPTIONS = 3;
    private static final int MOST_WORDS = 300;
    private static final int MOST_SENTENCES = 50;
    private static final int MOST_CAPTION_WORDS = 30;
    private static final int ALL_FACTS = 65535;
    private static final int LEAST_AGE = 4;
    private static final int GREATEST_AGE = 99;
    private static final int LEAST_PACE = 30;
    private static final int GREATEST_PACE = 400;
    private static final int MOST_SECONDS = 9999;
    private static final int MOST_TURNING = 60;
    private static final int FIRST_TURNING = 5;
    private static final int NO_TEXT_ON_ENTERING = 9;
    private static final int FAULT_AT_START = -100;
    private static final int NO_FAULT = -1;

    // A text is a row of numbers: first those that text() tells, each at its "what", then its captions.
    private static final int WORDS = 0;
    private static final int SENTENCES = 1;
    private static final int LONGS = 2;
    private static final int FACTS = 3;
    private static final int READING_AGE = 4;
    private static final int CAPTIONS = 5;
    private static final int READS = 6;
    private static final int TEXT_NUMBERS = 7;
    // A caption is a part of that row: the numbers that caption() tells, each at its "what".
    private static final int CAPTION_WORDS = 0;
    private static final int CAPTION_FACTS = 1;
    private static final int CAPTION_READS = 2;
    private static final int CAPTION_NUMBERS = 3;
    private static final int TEXT_ROW = TEXT_NUMBERS + MOST_CAPTIONS * CAPTION_NUMBERS;

    // A power of two, so that a mask finds the place of a state in the ring of the history.
    private static final int MOST_STATES = 4;
    private static final int PAD_SIZE = 60;

    private State now = new State();
    // An act is tried on a copy; the copy becomes the state only when the act is done.
    private State trial = new State();
    private final State snapshot = new State();
    private boolean kept;
    private final State[] history = new State[MOST_STATES];
    private int nextInHistory;
    private int statesInHistory;
    private final Pad pad = new Pad();
    private int refusedEntry;
    // 0 until an entry is refused, since an error is below 0.
    private int refusedError;

    /** Creates a carousel without texts. */
    public ExhibitTexts() {
        for (int i = 0; i < MOST_STATES; i++) {
            history[i] = new State();
        }
    }

    // ---- texts and captions

    /** Adds a text: its number; UNKNOWN; BAD_VALUE; FULL. */
    public int addText(int exhibit, int words, int sentences, int longs, int facts) {
        return settle(attempt().putText(exhibit, words, sentences, longs, facts));
    }

    /** Removes a text with its captions: how many are left at the exhibit; UNKNOWN. */
    public int removeText(int exhibit, int text) {
        return settle(attempt().dropText(exhibit, text));
    }

    /** Gives a text other facts: the previous ones; UNKNOWN; BAD_VALUE; NOT_POSSIBLE; NONE. */
    public int setFacts(int exhibit, int text, int facts) {
        return settle(attempt().changeFacts(exhibit, text, facts));
    }

    /** Adds a caption: its number; UNKNOWN; BAD_VALUE; NOT_POSSIBLE; FULL. */
    public int addCaption(int exhibit, int text, int words, int facts) {
        return settle(attempt().putCaption(exhibit, text, words, facts));
    }

    /** Does all entries of the pad, or none: how many; -100 minus the fault; NOT_POSSIBLE. */
    public int readEntries() {
        int fault = pad.findFault();
        if (fault != NO_FAULT) {
            return FAULT_AT_START - fault;
        }
        return settle(doEntries(attempt()));
    }

    /** Tells of the latest refusal: the entry's number or the error; BAD_VALUE; NONE. */
    public int refusal(int what) {
        if (what < 0 || what > 1) {
            return BAD_VALUE;
        }
        if (refusedError == 0) {
            return NONE;
        }
        return what == 0 ? refusedEntry : refusedError;
    }

    // ---- visitors

    /** A visitor comes: the text that is shown, or 9 without one; BAD_VALUE. */
    public int enter(int age, int pace, int seconds) {
        return settle(attempt().admit(age, pace, seconds));
    }

    /** The visitor touches a caption: how many facts are learned; NOT_POSSIBLE; UNKNOWN; NONE. */
    public int touch(int caption) {
        return settle(attempt().touchCaption(caption));
    }

    /** The visitor reads a text without captions: how many facts are learned; NOT_POSSIBLE; NONE. */
    public int read() {
        return settle(attempt().readUntouched());
    }

    /** Turns the carousel: the exhibit at which it stands then. */
    public int turn(boolean forward) {
        return settle(attempt().turnRing(forward));
    }

    /** Sets the turning time: the previous one; BAD_VALUE; NONE. */
    public int setTurning(int seconds) {
        return settle(attempt().changeTurning(seconds));
    }

    // ---- the pad

    /** Types a character behind the pad: its length then; FULL. */
    public int type(char character) {
        return pad.append(character);
    }

    /** Empties the pad: the length that it had. */
    public int clearPad() {
        int before = pad.length;
        pad.length = 0;
        return before;
    }

    // ---- history

    /** Restores the latest state of the history: how many are left; NONE. */
    public int undo() {
        if (statesInHistory == 0) {
            return NONE;
        }
        nextInHistory--;
        statesInHistory--;
        int place = nextInHistory & (MOST_STATES - 1);
        State undone = now;
        now = history[place];
        history[place] = undone;
        return statesInHistory;
    }

    /** Takes a snapshot: the number of texts. */
    public int keep() {
        snapshot.copyFrom(now);
        kept = true;
        return now.countTexts();
    }

    /** Restores the snapshot, which stays: the number of texts then; NONE. */
    public int restore() {
        if (!kept) {
            return NONE;
        }
        trial.copyFrom(snapshot);
        return settle(trial.countTexts());
    }

    // ---- what is told

    /** Tells a number of a text; UNKNOWN; BAD_VALUE. */
    public int text(int exhibit, int text, int what) {
        int row = now.rowOf(exhibit, text);
        if (row < 0) {
            return UNKNOWN;
        }
        if (what < 0 || what >= TEXT_NUMBERS) {
            return BAD_VALUE;
        }
        return now.cells[row + what];
    }

    /** Tells a number of a caption; UNKNOWN; BAD_VALUE. */
    public int caption(int exhibit, int text, int caption, int what) {
        int row = now.rowOf(exhibit, text);
        if (row < 0) {
            return UNKNOWN;
        }
        int place = now.captionOf(row, caption);
        if (place < 0) {
            return UNKNOWN;
        }
        if (what < 0 || what >= CAPTION_NUMBERS) {
            return BAD_VALUE;
        }
        return now.cells[place + what];
    }

    /** Tells a number of the visitor; BAD_VALUE; NONE. */
    public int visitor(int what) {
        if (what < 0 || what > 5) {
            return BAD_VALUE;
        }
        if (!now.hasVisitor) {
            return NONE;
        }
        switch (what) {
            case 0:
                return now.age;
            case 1:
                return now.pace;
            case 2:
                return now.seconds;
            case 3:
                return now.learned;
            case 4:
                return Integer.bitCount(now.learned);
            default:
                return now.textFor(now.standsAt, now.age);
        }
    }

    /** Tells the text that an age is shown at an exhibit; UNKNOWN; BAD_VALUE; NONE. */
    public int shown(int exhibit, int age) {
        if (!isExhibit(exhibit)) {
            return UNKNOWN;
        }
        if (!isAge(age)) {
            return BAD_VALUE;
        }
        return now.textFor(exhibit, age);
    }

    /** Tells the facts that an age is shown nowhere, as bits; BAD_VALUE. */
    public int unmet(int age) {
        if (!isAge(age)) {
            return BAD_VALUE;
        }
        return now.allFacts() & ~now.factsFor(age);
    }

    /** Tells the facts that one visitor learns in a whole round, as bits; BAD_VALUE. */
    public int round(int age, int pace, int seconds) {
        // The visitor goes round on a copy that never becomes the state.
        State walk = attempt();
        int answer = walk.admit(age, pace, seconds);
        if (answer < 0) {
            return answer;
        }
        walk.readShown();
        for (int turns = 1; turns < EXHIBITS; turns++) {
            walk.turnRing(true);
            walk.readShown();
        }
        return walk.learned;
    }

    /** Tells of the ages that are shown a text: least, greatest, how many; UNKNOWN; BAD_VALUE; NONE. */
    public int ages(int exhibit, int text, int what) {
        if (now.rowOf(exhibit, text) < 0) {
            return UNKNOWN;
        }
        if (what < 0 || what > 2) {
            return BAD_VALUE;
        }
        int least = NONE;
        int greatest = NONE;
        int number = 0;
        for (int age = LEAST_AGE; age <= GREATEST_AGE; age++) {
            if (now.textFor(exhibit, age) == text) {
                least = number == 0 ? age : least;
                greatest = age;
                number++;
            }
        }
        if (what == 2) {
            return number;
        }
        return what == 0 ? least : greatest;
    }

    /** Tells a number of the whole; BAD_VALUE. */
    public int count(int what) {
        switch (what) {
            case 0:
                return now.countTexts();
            case 1:
                return now.countCaptions();
            case 2:
                return now.standsAt;
            case 3:
                return now.turning;
            case 4:
                return now.visitors;
            case 5:
                return now.textsRead;
            case 6:
                return now.captionsRead;
            case 7:
                return now.countNeverRead();
            case 8:
                return Integer.bitCount(now.allFacts());
            case 9:
                return statesInHistory;
            case 10:
                return pad.length;
            default:
                return BAD_VALUE;
        }
    }

    // ---- how acts are done

    private State attempt() {
        trial.copyFrom(now);
        return trial;
    }

    /** Ends an act that was tried: an error or NONE is below 0, and leaves the state as it was. */
    private int settle(int answer) {
        if (answer < 0) {
            return answer;
        }
        int place = nextInHistory & (MOST_STATES - 1);
        State dropped = history[place];
        history[place] = now;
        now = trial;
        trial = dropped;
        nextInHistory++;
        statesInHistory = Math.min(statesInHistory + 1, MOST_STATES);
        return answer;
    }

    /** Does the entries of a pad without a fault one after the other, up to the first that is refused. */
    private int doEntries(State state) {
        pad.place = 0;
        for (int entry = 0; entry < PAD_SIZE; entry++) {
            pad.takeEntry();
            int answer = doEntry(state);
            if (answer < 0) {
                refusedEntry = entry;
                refusedError = answer;
                return NOT_POSSIBLE;
            }
            if (!pad.takeSign(';')) {
                return entry + 1;
            }
        }
        return PAD_SIZE;
    }

    private int doEntry(State state) {
        if (pad.isCaption) {
            return state.putCaption(pad.exhibit, pad.text, pad.words, pad.facts);
        }
        return state.putText(pad.exhibit, pad.words, pad.sentences, pad.longs, pad.facts);
    }

    // ---- what is in range

    private static boolean isExhibit(int exhibit) {
        return exhibit >= 0 && exhibit < EXHIBITS;
    }

    private static boolean isAge(int age) {
        return age >= LEAST_AGE && age <= GREATEST_AGE;
    }

    private static boolean isText(int words, int sentences, int longs) {
        return words >= 1 && words <= MOST_WORDS
            && sentences >= 1 && sentences <= MOST_SENTENCES && sentences <= words
            && longs >= 0 && longs <= words;
    }

    /** Everything that undo() and restore() bring back. */
    private static final class State {
        final int[] sizes = new int[EXHIBITS];
        final int[] cells = new int[EXHIBITS * MOST_TEXTS * TEXT_ROW];
        int standsAt;
        int turning = FIRST_TURNING;
        int visitors;
        // These two count readings, also of what was removed since.
        int textsRead;
        int captionsRead;
        boolean hasVisitor;
        int age;
        int pace;
        int seconds;
        int learned;

        void copyFrom(State other) {
            System.arraycopy(other.sizes, 0, sizes, 0, EXHIBITS);
            System.arraycopy(other.cells, 0, cells, 0, EXHIBITS * MOST_TEXTS * TEXT_ROW);
            standsAt = other.standsAt;
            turning = other.turning;
            visitors = other.visitors;
            textsRead = other.textsRead;
            captionsRead = other.captionsRead;
            hasVisitor = other.hasVisitor;
            age = other.age;
            pace = other.pace;
            seconds = other.seconds;
            learned = other.learned;
        }

        /** Where the row of a text begins, or UNKNOWN. */
        int rowOf(int exhibit, int text) {
            if (!isExhibit(exhibit) || text < 0 || text >= sizes[exhibit]) {
                return UNKNOWN;
            }
            return (exhibit * MOST_TEXTS + text) * TEXT_ROW;
        }

        /** Where a caption begins in the row of its text, or UNKNOWN. */
        int captionOf(int row, int caption) {
            if (caption < 0 || caption >= cells[row + CAPTIONS]) {
                return UNKNOWN;
            }
            return row + TEXT_NUMBERS + caption * CAPTION_NUMBERS;
        }

        int putText(int exhibit, int words, int sentences, int longs, int facts) {
            if (!isExhibit(exhibit)) {
                return UNKNOWN;
            }
            if (!isText(words, sentences, longs) || facts < 1 || facts > ALL_FACTS) {
                return BAD_VALUE;
            }
            int text = sizes[exhibit];
            if (text >= MOST_TEXTS) {
                return FULL;
            }
            int row = (exhibit * MOST_TEXTS + text) * TEXT_ROW;
            cells[row + WORDS] = words;
            cells[row + SENTENCES] = sentences;
            cells[row + LONGS] = longs;
            cells[row + FACTS] = facts;
            cells[row + READING_AGE] = LEAST_AGE + words / (2 * sentences) + 30 * longs / words;
            cells[row + CAPTIONS] = 0;
            cells[row + READS] = 0;
            sizes[exhibit] = text + 1;
            return text;
        }

        int dropText(int exhibit, int text) {
            int row = rowOf(exhibit, text);
            if (row < 0) {
                return UNKNOWN;
            }
            int left = sizes[exhibit] - 1;
            if (text < left) {
                System.arraycopy(cells, row + TEXT_ROW, cells, row, (left - text) * TEXT_ROW);
            }
            sizes[exhibit] = left;
            return left;
        }

        int changeFacts(int exhibit, int text, int facts) {
            int row = rowOf(exhibit, text);
            if (row < 0) {
                return UNKNOWN;
            }
            if (facts < 1 || facts > ALL_FACTS) {
                return BAD_VALUE;
            }
            if ((captionFacts(row) & ~facts) != 0) {
                return NOT_POSSIBLE;
            }
            int before = cells[row + FACTS];
            if (before == facts) {
                return NONE;
            }
            cells[row + FACTS] = facts;
            return before;
        }

        private int captionFacts(int row) {
            int facts = 0;
            for (int caption = 0; caption < cells[row + CAPTIONS]; caption++) {
                facts |= cells[row + TEXT_NUMBERS + caption * CAPTION_NUMBERS + CAPTION_FACTS];
            }
            return facts;
        }

        int putCaption(int exhibit, int text, int words, int facts) {
            int row = rowOf(exhibit, text);
            if (row < 0) {
                return UNKNOWN;
            }
            if (words < 1 || words > MOST_CAPTION_WORDS || facts < 0 || facts > ALL_FACTS) {
                return BAD_VALUE;
            }
            if ((facts & ~cells[row + FACTS]) != 0) {
                return NOT_POSSIBLE;
            }
            int caption = cells[row + CAPTIONS];
            if (caption >= MOST_CAPTIONS) {
                return FULL;
            }
            int place = row + TEXT_NUMBERS + caption * CAPTION_NUMBERS;
            cells[place + CAPTION_WORDS] = words;
            cells[place + CAPTION_FACTS] = facts;
            cells[place + CAPTION_READS] = 0;
            cells[row + CAPTIONS] = caption + 1;
            return caption;
        }

        int admit(int newAge, int newPace, int newSeconds) {
            if (!isAge(newAge) || newPace < LEAST_PACE || newPace > GREATEST_PACE
                || newSeconds < 1 || newSeconds > MOST_SECONDS) {
                return BAD_VALUE;
            }
            hasVisitor = true;
            age = newAge;
            pace = newPace;
            seconds = newSeconds;
            learned = 0;
            visitors++;
            int text = textFor(standsAt, age);
            return text == NONE ? NO_TEXT_ON_ENTERING : text;
        }

        int touchCaption(int caption) {
            int row = shownRow();
            if (row < 0) {
                return NOT_POSSIBLE;
            }
            int place = captionOf(row, caption);
            if (place < 0) {
                return UNKNOWN;
            }
            int time = timeFor(cells[place + CAPTION_WORDS]);
            if (time > seconds) {
                return NONE;
            }
            int before = learned;
            seconds -= time;
            learned |= cells[place + CAPTION_FACTS];
            cells[place + CAPTION_READS]++;
            captionsRead++;
            readShown();
            return Integer.bitCount(learned & ~before);
        }

        int readUntouched() {
            int row = shownRow();
            if (row < 0 || cells[row + CAPTIONS] > 0) {
                return NOT_POSSIBLE;
            }
            int before = learned;
            if (!readShown()) {
                return NONE;
            }
            return Integer.bitCount(learned & ~before);
        }

        /** Reads the text that is shown as a whole; not without time for it or without a new fact. */
        boolean readShown() {
            int row = shownRow();
            if (row < 0) {
                return false;
            }
            int time = timeFor(cells[row + WORDS]);
            if (time > seconds || (cells[row + FACTS] & ~learned) == 0) {
                return false;
            }
            seconds -= time;
            learned |= cells[row + FACTS];
            cells[row + READS]++;
            textsRead++;
            return true;
        }

        int turnRing(boolean forward) {
            standsAt = Math.floorMod(forward ? standsAt + 1 : standsAt - 1, EXHIBITS);
            seconds = Math.max(seconds - turning, 0);
            return standsAt;
        }

        int changeTurning(int newTurning) {
            if (newTurning < 0 || newTurning > MOST_TURNING) {
                return BAD_VALUE;
            }
            if (newTurning == turning) {
                return NONE;
            }
            int before = turning;
            turning = newTurning;
            return before;
        }

        /** The row of the text that the visitor is shown, or NONE without visitor or text. */
        private int shownRow() {
            if (!hasVisitor) {
                return NONE;
            }
            int text = textFor(standsAt, age);
            return text == NONE ? NONE : rowOf(standsAt, text);
        }

        private int timeFor(int words) {
            // A visitor's pace is never less; this keeps the divisor from 0 whoever asks.
            int divisor = Math.max(pace, LEAST_PACE);
            return (60 * words + divisor - 1) / divisor;
        }

        /** The text that an age is shown at an exhibit, or NONE. */
        int textFor(int exhibit, int anAge) {
            if (!isExhibit(exhibit) || sizes[exhibit] == 0) {
                return NONE;
            }
            int first = exhibit * MOST_TEXTS * TEXT_ROW;
            int best = 0;
            for (int text = 1; text < sizes[exhibit]; text++) {
                if (fitsBetter(first + text * TEXT_ROW, first + best * TEXT_ROW, anAge)) {
                    best = text;
                }
            }
            return best;
        }

        /** Whether the text of a row is shown rather than that of an earlier row. */
        private boolean fitsBetter(int row, int earlier, int anAge) {
            int level = cells[row + READING_AGE];
            int earlierLevel = cells[earlier + READING_AGE];
            // With one text above the age, the easier one is either the only one that fits, or the nearest.
            if (level > anAge || earlierLevel > anAge) {
                return level < earlierLevel;
            }
            if (level != earlierLevel) {
                return level > earlierLevel;
            }
            return cells[row + WORDS] < cells[earlier + WORDS];
        }

        /** The facts of the texts that an age is shown at all exhibits. */
        int factsFor(int anAge) {
            int facts = 0;
            for (int exhibit = 0; exhibit < EXHIBITS; exhibit++) {
                int row = rowOf(exhibit, textFor(exhibit, anAge));
                if (row >= 0) {
                    facts |= cells[row + FACTS];
                }
            }
            return facts;
        }

        int allFacts() {
            int facts = 0;
            for (int exhibit = 0; exhibit < EXHIBITS; exhibit++) {
                for (int text = 0; text < sizes[exhibit]; text++) {
                    facts |= cells[(exhibit * MOST_TEXTS + text) * TEXT_ROW + FACTS];
                }
            }
            return facts;
        }

        int countTexts() {
            int number = 0;
            for (int exhibit = 0; exhibit < EXHIBITS; exhibit++) {
                number += sizes[exhibit];
            }
            return number;
        }

        int countCaptions() {
            int number = 0;
            for (int exhibit = 0; exhibit < EXHIBITS; exhibit++) {
                for (int text = 0; text < sizes[exhibit]; text++) {
                    number += cells[(exhibit * MOST_TEXTS + text) * TEXT_ROW + CAPTIONS];
                }
            }
            return number;
        }

        int countNeverRead() {
            int number = 0;
            for (int exhibit = 0; exhibit < EXHIBITS; exhibit++) {
                for (int text = 0; text < sizes[exhibit]; text++) {
                    if (cells[(exhibit * MOST_TEXTS + text) * TEXT_ROW + READS] == 0) {
                        number++;
                    }
                }
            }
            return number;
        }
    }

    /** The characters that were typed, and the entry that was last taken from them. */
    private static final class Pad {
        private static final int END = -1;
        private static final int GREATEST_NUMBER = 999;

        final char[] characters = new char[PAD_SIZE];
        int length;
        // The next character to take; where taking fails, it is the fault.
        int place;
        boolean isCaption;
        int exhibit;
        int text;
        int words;
        int sentences;
        int longs;
        int facts;

        int append(char character) {
            if (length >= PAD_SIZE) {
                return FULL;
            }
            characters[length] = character;
            length++;
            return length;
        }

        /** The fault of the pad, or NO_FAULT. */
        int findFault() {
            place = 0;
            for (int entry = 0; entry < PAD_SIZE; entry++) {
                if (!takeEntry()) {
                    return place;
                }
                if (place == length) {
                    return NO_FAULT;
                }
                if (!takeSign(';')) {
                    return place;
                }
            }
            return place;
        }

        boolean takeEntry() {
            exhibit = takeNumber(0, EXHIBITS - 1);
            if (exhibit < 0) {
                return false;
            }
            isCaption = takeSign('.');
            return isCaption ? takeCaption() : takeSign(':') && takeText();
        }

        private boolean takeText() {
            words = takeNumber(0, GREATEST_NUMBER);
            if (words < 0 || !takeSign('/')) {
                return false;
            }
            sentences = takeNumber(0, GREATEST_NUMBER);
            if (sentences < 0 || !takeSign('/')) {
                return false;
            }
            longs = takeNumber(0, GREATEST_NUMBER);
            if (longs < 0 || !takeSign('=')) {
                return false;
            }
            facts = takeFacts();
            return facts != 0;
        }

        private boolean takeCaption() {
            text = takeNumber(0, MOST_TEXTS - 1);
            if (text < 0 || !takeSign('+')) {
                return false;
            }
            words = takeNumber(1, MOST_CAPTION_WORDS);
            if (words < 0 || !takeSign('=')) {
                return false;
            }
            facts = takeFacts();
            return true;
        }

        boolean takeSign(char sign) {
            if (nextSign() != sign) {
                return false;
            }
            place++;
            return true;
        }

        /** Takes a number without a zero in front, at least 0 or 1, or answers END and takes nothing. */
        private int takeNumber(int least, int greatest) {
            int number = nextDigit();
            if (number < least || number > greatest) {
                return END;
            }
            place++;
            for (int taken = 1; taken < PAD_SIZE && number > 0; taken++) {
                int digit = nextDigit();
                if (digit < 0 || number * 10 + digit > greatest) {
                    break;
                }
                number = number * 10 + digit;
                place++;
            }
            return number;
        }

        /** Takes letters in the order of the alphabet: their facts as bits, 0 without one. */
        private int takeFacts() {
            int taken = 0;
            for (int fact = 0; fact < 16; fact++) {
                if (nextSign() == 'a' + fact) {
                    taken |= 1 << fact;
                    place++;
                }
            }
            return taken;
        }

        private int nextDigit() {
            int sign = nextSign();
            return sign >= '0' && sign <= '9' ? sign - '0' : END;
        }

        private int nextSign() {
            if (place < 0 || place >= length || place >= PAD_SIZE) {
                return END;
            }
            return characters[place];
        }
    }
}
