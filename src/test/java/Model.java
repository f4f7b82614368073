import java.util.ArrayDeque;
import java.util.ArrayList;
import java.util.Comparator;
import java.util.Deque;
import java.util.List;
import java.util.TreeSet;
import java.util.Set;
import java.util.regex.Matcher;
import java.util.regex.Pattern;

/**
 * The document once more, as plainly as the Java library allows: lists of objects, sets of letters, deep copies,
 * and a regular expression for the pad. ModelTest compares the class with it.
 */
final class Model {
    private static final Pattern PAD = pad();

    private static final class Caption {
        int words;
        Set<Integer> facts;
        int reads;
    }

    private static final class Text {
        int words;
        int sentences;
        int longs;
        Set<Integer> facts;
        int reads;
        List<Caption> captions = new ArrayList<>();

        int level() {
            return 4 + words / (2 * sentences) + 30 * longs / words;
        }
    }

    private static final class Visitor {
        int age;
        int pace;
        int seconds;
        Set<Integer> learned = new TreeSet<>();
    }

    private static final class World {
        List<List<Text>> exhibits = new ArrayList<>();
        Visitor visitor;
        int place;
        int turning = 5;
        int visitors;
        int textsRead;
        int captionsRead;
    }

    private World world = new World();
    private World snapshot;
    private final Deque<World> history = new ArrayDeque<>();
    private String pad = "";
    private int[] refusal;

    Model() {
        for (int i = 0; i < 8; i++) {
            world.exhibits.add(new ArrayList<>());
        }
    }

    // ---- copies

    private static World copy(World from) {
        World to = new World();
        for (List<Text> texts : from.exhibits) {
            List<Text> copies = new ArrayList<>();
            for (Text text : texts) {
                copies.add(copy(text));
            }
            to.exhibits.add(copies);
        }
        if (from.visitor != null) {
            to.visitor = new Visitor();
            to.visitor.age = from.visitor.age;
            to.visitor.pace = from.visitor.pace;
            to.visitor.seconds = from.visitor.seconds;
            to.visitor.learned.addAll(from.visitor.learned);
        }
        to.place = from.place;
        to.turning = from.turning;
        to.visitors = from.visitors;
        to.textsRead = from.textsRead;
        to.captionsRead = from.captionsRead;
        return to;
    }

    private static Text copy(Text from) {
        Text to = new Text();
        to.words = from.words;
        to.sentences = from.sentences;
        to.longs = from.longs;
        to.facts = new TreeSet<>(from.facts);
        to.reads = from.reads;
        for (Caption caption : from.captions) {
            Caption other = new Caption();
            other.words = caption.words;
            other.facts = new TreeSet<>(caption.facts);
            other.reads = caption.reads;
            to.captions.add(other);
        }
        return to;
    }

    private void record() {
        history.addLast(copy(world));
        if (history.size() > 4) {
            history.removeFirst();
        }
    }

    private static Set<Integer> letters(int bits) {
        Set<Integer> letters = new TreeSet<>();
        for (int i = 0; i < 16; i++) {
            if ((bits >> i) % 2 != 0) {
                letters.add(i);
            }
        }
        return letters;
    }

    private static int bits(Set<Integer> letters) {
        int bits = 0;
        for (int letter : letters) {
            bits += 1 << letter;
        }
        return bits;
    }

    private Text find(int exhibit, int text) {
        if (exhibit < 0 || exhibit > 7 || text < 0 || text >= world.exhibits.get(exhibit).size()) {
            return null;
        }
        return world.exhibits.get(exhibit).get(text);
    }

    private static boolean within(int number, int least, int greatest) {
        return least <= number && number <= greatest;
    }

    // ---- texts and captions

    int addText(int exhibit, int words, int sentences, int longs, int facts) {
        World before = copy(world);
        int answer = addTextNow(exhibit, words, sentences, longs, facts);
        return ended(answer, before);
    }

    private int ended(int answer, World before) {
        if (answer >= 0) {
            history.addLast(before);
            if (history.size() > 4) {
                history.removeFirst();
            }
        }
        return answer;
    }

    private int addTextNow(int exhibit, int words, int sentences, int longs, int facts) {
        if (!within(exhibit, 0, 7)) {
            return -1;
        }
        if (!within(words, 1, 300) || !within(sentences, 1, Math.min(50, words)) || !within(longs, 0, words)
            || !within(facts, 1, 65535)) {
            return -2;
        }
        List<Text> texts = world.exhibits.get(exhibit);
        if (texts.size() == 5) {
            return -3;
        }
        Text text = new Text();
        text.words = words;
        text.sentences = sentences;
        text.longs = longs;
        text.facts = letters(facts);
        texts.add(text);
        return texts.size() - 1;
    }

    int removeText(int exhibit, int text) {
        if (find(exhibit, text) == null) {
            return -1;
        }
        record();
        world.exhibits.get(exhibit).remove(text);
        return world.exhibits.get(exhibit).size();
    }

    int setFacts(int exhibit, int text, int facts) {
        Text found = find(exhibit, text);
        if (found == null) {
            return -1;
        }
        if (!within(facts, 1, 65535)) {
            return -2;
        }
        for (Caption caption : found.captions) {
            if (!letters(facts).containsAll(caption.facts)) {
                return -4;
            }
        }
        if (found.facts.equals(letters(facts))) {
            return -5;
        }
        record();
        int previous = bits(found.facts);
        found.facts = letters(facts);
        return previous;
    }

    int addCaption(int exhibit, int text, int words, int facts) {
        World before = copy(world);
        return ended(addCaptionNow(exhibit, text, words, facts), before);
    }

    private int addCaptionNow(int exhibit, int text, int words, int facts) {
        Text found = find(exhibit, text);
        if (found == null) {
            return -1;
        }
        if (!within(words, 1, 30) || !within(facts, 0, 65535)) {
            return -2;
        }
        if (!found.facts.containsAll(letters(facts))) {
            return -4;
        }
        if (found.captions.size() == 3) {
            return -3;
        }
        Caption caption = new Caption();
        caption.words = words;
        caption.facts = letters(facts);
        found.captions.add(caption);
        return found.captions.size() - 1;
    }

    // ---- entries

    private static Pattern pad() {
        StringBuilder ascending = new StringBuilder();
        for (char letter = 'a'; letter <= 'p'; letter++) {
            ascending.append(letter).append('?');
        }
        String number = "(?:0|[1-9][0-9]?[0-9]?)";
        String text = "[0-7]:" + number + "/" + number + "/" + number + "=(?=[a-p])" + ascending;
        String caption = "[0-7]\\.[0-4]\\+(?:30|[12][0-9]|[1-9])=" + ascending;
        String entry = "(?:" + text + "|" + caption + ")";
        return Pattern.compile(entry + "(?:;" + entry + ")*");
    }

    /** Whether anything could be typed behind the signs to make a pad of entries, or they are one. */
    private static boolean isStart(String signs) {
        Matcher matcher = PAD.matcher(signs);
        return matcher.matches() || matcher.hitEnd();
    }

    private int fault() {
        for (int length = 1; length <= pad.length(); length++) {
            if (!isStart(pad.substring(0, length))) {
                return length - 1;
            }
        }
        return PAD.matcher(pad).matches() ? -1 : pad.length();
    }

    int readEntries() {
        int fault = fault();
        if (fault >= 0) {
            return -100 - fault;
        }
        World before = copy(world);
        String[] entries = pad.split(";");
        for (int i = 0; i < entries.length; i++) {
            String[] parts = entries[i].split("[:/=.+]");
            boolean isText = entries[i].indexOf(':') >= 0;
            String letters = parts.length == (isText ? 5 : 4) ? parts[parts.length - 1] : "";
            int facts = 0;
            for (char letter : letters.toCharArray()) {
                facts += 1 << (letter - 'a');
            }
            int first = Integer.parseInt(parts[0]);
            int second = Integer.parseInt(parts[1]);
            int third = Integer.parseInt(parts[2]);
            int answer = isText ? addTextNow(first, second, third, Integer.parseInt(parts[3]), facts)
                : addCaptionNow(first, second, third, facts);
            if (answer < 0) {
                world = before;
                refusal = new int[] {i, answer};
                return -4;
            }
        }
        return ended(entries.length, before);
    }

    int refusal(int what) {
        if (!within(what, 0, 1)) {
            return -2;
        }
        return refusal == null ? -5 : refusal[what];
    }

    // ---- visitors

    int enter(int age, int pace, int seconds) {
        if (!within(age, 4, 99) || !within(pace, 30, 400) || !within(seconds, 1, 9999)) {
            return -2;
        }
        record();
        world.visitor = newVisitor(age, pace, seconds);
        world.visitors++;
        int text = shown(world.place, age);
        return text == -5 ? 9 : text;
    }

    private static Visitor newVisitor(int age, int pace, int seconds) {
        Visitor visitor = new Visitor();
        visitor.age = age;
        visitor.pace = pace;
        visitor.seconds = seconds;
        return visitor;
    }

    private static int time(int words, int pace) {
        int time = 0;
        while (time * pace < 60 * words) {
            time++;
        }
        return time;
    }

    private Text shownText() {
        return world.visitor == null ? null : find(world.place, shown(world.place, world.visitor.age));
    }

    private static boolean suffices(Visitor visitor, Text text) {
        return time(text.words, visitor.pace) <= visitor.seconds && !visitor.learned.containsAll(text.facts);
    }

    private static void learn(Visitor visitor, int words, Set<Integer> facts) {
        visitor.seconds -= time(words, visitor.pace);
        visitor.learned.addAll(facts);
    }

    int touch(int caption) {
        Text text = shownText();
        if (text == null) {
            return -4;
        }
        if (!within(caption, 0, text.captions.size() - 1)) {
            return -1;
        }
        Caption touched = text.captions.get(caption);
        Visitor visitor = world.visitor;
        if (time(touched.words, visitor.pace) > visitor.seconds) {
            return -5;
        }
        record();
        int before = visitor.learned.size();
        learn(visitor, touched.words, touched.facts);
        touched.reads++;
        world.captionsRead++;
        if (suffices(visitor, text)) {
            readWhole(text);
        }
        return visitor.learned.size() - before;
    }

    private void readWhole(Text text) {
        learn(world.visitor, text.words, text.facts);
        text.reads++;
        world.textsRead++;
    }

    int read() {
        Text text = shownText();
        if (text == null || !text.captions.isEmpty()) {
            return -4;
        }
        if (!suffices(world.visitor, text)) {
            return -5;
        }
        record();
        int before = world.visitor.learned.size();
        readWhole(text);
        return world.visitor.learned.size() - before;
    }

    int turn(boolean forward) {
        record();
        world.place = (world.place + (forward ? 1 : 7)) % 8;
        if (world.visitor != null) {
            world.visitor.seconds = Math.max(0, world.visitor.seconds - world.turning);
        }
        return world.place;
    }

    int setTurning(int seconds) {
        if (!within(seconds, 0, 60)) {
            return -2;
        }
        if (seconds == world.turning) {
            return -5;
        }
        record();
        int previous = world.turning;
        world.turning = seconds;
        return previous;
    }

    // ---- the pad

    int type(char character) {
        if (pad.length() == 60) {
            return -3;
        }
        pad += character;
        return pad.length();
    }

    int clearPad() {
        int length = pad.length();
        pad = "";
        return length;
    }

    // ---- history

    int undo() {
        if (history.isEmpty()) {
            return -5;
        }
        world = history.removeLast();
        return history.size();
    }

    int keep() {
        snapshot = copy(world);
        return count(0);
    }

    int restore() {
        if (snapshot == null) {
            return -5;
        }
        record();
        world = copy(snapshot);
        return count(0);
    }

    // ---- what is told

    int text(int exhibit, int text, int what) {
        Text found = find(exhibit, text);
        if (found == null) {
            return -1;
        }
        switch (what) {
            case 0: return found.words;
            case 1: return found.sentences;
            case 2: return found.longs;
            case 3: return bits(found.facts);
            case 4: return found.level();
            case 5: return found.captions.size();
            case 6: return found.reads;
            default: return -2;
        }
    }

    int caption(int exhibit, int text, int caption, int what) {
        Text found = find(exhibit, text);
        if (found == null || !within(caption, 0, found.captions.size() - 1)) {
            return -1;
        }
        Caption told = found.captions.get(caption);
        switch (what) {
            case 0: return told.words;
            case 1: return bits(told.facts);
            case 2: return told.reads;
            default: return -2;
        }
    }

    int visitor(int what) {
        if (!within(what, 0, 5)) {
            return -2;
        }
        Visitor visitor = world.visitor;
        if (visitor == null) {
            return -5;
        }
        switch (what) {
            case 0: return visitor.age;
            case 1: return visitor.pace;
            case 2: return visitor.seconds;
            case 3: return bits(visitor.learned);
            case 4: return visitor.learned.size();
            default: return shown(world.place, visitor.age);
        }
    }

    int shown(int exhibit, int age) {
        if (!within(exhibit, 0, 7)) {
            return -1;
        }
        if (!within(age, 4, 99)) {
            return -2;
        }
        List<Text> texts = world.exhibits.get(exhibit);
        List<Text> fitting = new ArrayList<>(texts);
        fitting.removeIf(text -> text.level() > age);
        // Sorting is stable, so that of equal ones the lowest stays ahead.
        fitting.sort(Comparator.comparingInt((Text text) -> -text.level()).thenComparingInt(text -> text.words));
        List<Text> easiest = new ArrayList<>(texts);
        easiest.sort(Comparator.comparingInt(Text::level));
        List<Text> choice = fitting.isEmpty() ? easiest : fitting;
        return choice.isEmpty() ? -5 : texts.indexOf(choice.get(0));
    }

    int unmet(int age) {
        if (!within(age, 4, 99)) {
            return -2;
        }
        Set<Integer> unmet = allFacts();
        for (int exhibit = 0; exhibit < 8; exhibit++) {
            Text text = find(exhibit, shown(exhibit, age));
            if (text != null) {
                unmet.removeAll(text.facts);
            }
        }
        return bits(unmet);
    }

    private Set<Integer> allFacts() {
        Set<Integer> facts = new TreeSet<>();
        world.exhibits.forEach(texts -> texts.forEach(text -> facts.addAll(text.facts)));
        return facts;
    }

    int round(int age, int pace, int seconds) {
        if (!within(age, 4, 99) || !within(pace, 30, 400) || !within(seconds, 1, 9999)) {
            return -2;
        }
        Visitor visitor = newVisitor(age, pace, seconds);
        for (int steps = 0; steps < 8; steps++) {
            int exhibit = (world.place + steps) % 8;
            Text text = find(exhibit, shown(exhibit, age));
            if (text != null && suffices(visitor, text)) {
                learn(visitor, text.words, text.facts);
            }
            visitor.seconds = Math.max(0, visitor.seconds - world.turning);
        }
        return bits(visitor.learned);
    }

    int ages(int exhibit, int text, int what) {
        if (find(exhibit, text) == null) {
            return -1;
        }
        List<Integer> ages = new ArrayList<>();
        for (int age = 4; age < 100; age++) {
            if (shown(exhibit, age) == text) {
                ages.add(age);
            }
        }
        switch (what) {
            case 0: return ages.isEmpty() ? -5 : ages.get(0);
            case 1: return ages.isEmpty() ? -5 : ages.get(ages.size() - 1);
            case 2: return ages.size();
            default: return -2;
        }
    }

    int count(int what) {
        List<Text> texts = new ArrayList<>();
        world.exhibits.forEach(texts::addAll);
        switch (what) {
            case 0: return texts.size();
            case 1: return texts.stream().mapToInt(text -> text.captions.size()).sum();
            case 2: return world.place;
            case 3: return world.turning;
            case 4: return world.visitors;
            case 5: return world.textsRead;
            case 6: return world.captionsRead;
            case 7: return (int) texts.stream().filter(text -> text.reads == 0).count();
            case 8: return allFacts().size();
            case 9: return history.size();
            case 10: return pad.length();
            default: return -2;
        }
    }
}
