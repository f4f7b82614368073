import java.lang.reflect.Constructor;
import java.lang.reflect.Field;
import java.lang.reflect.Method;
import java.lang.reflect.Modifier;
import java.nio.file.Files;
import java.nio.file.Path;
import java.util.ArrayList;
import java.util.Arrays;
import java.util.List;
import java.util.Set;
import java.util.TreeSet;
import java.util.regex.Matcher;
import java.util.regex.Pattern;

/** The public face of the document: nothing more, nothing less. */
final class FaceTest {
    static final String[] METHODS = {
        "int addText(int, int, int, int, int)", "int removeText(int, int)", "int setFacts(int, int, int)",
        "int addCaption(int, int, int, int)", "int readEntries()", "int refusal(int)",
        "int enter(int, int, int)", "int touch(int)", "int read()", "int turn(boolean)",
        "int setTurning(int)", "int type(char)", "int clearPad()", "int undo()", "int keep()",
        "int restore()", "int text(int, int, int)", "int caption(int, int, int, int)", "int visitor(int)",
        "int shown(int, int)", "int unmet(int)", "int round(int, int, int)", "int ages(int, int, int)",
        "int count(int)"
    };
    private static final String[] HEADINGS = {
        "---- texts and captions", "addText", "removeText", "setFacts", "addCaption", "readEntries", "refusal",
        "---- visitors", "enter", "touch", "read", "turn", "setTurning",
        "---- the pad", "type", "clearPad",
        "---- history", "undo", "keep", "restore",
        "---- what is told", "text", "caption", "visitor", "shown", "unmet", "round", "ages", "count"
    };
    private static final Path SOURCE = Path.of("src/main/java/ExhibitTexts.java");
    private static final Pattern HEADING_OR_METHOD =
        Pattern.compile("    (?:// (----.*)|public \\w+ (\\w+)\\(.*\\) \\{)");
    private static final String[] CONSTANTS = {"UNKNOWN", "BAD_VALUE", "FULL", "NOT_POSSIBLE", "NONE"};

    private FaceTest() {
    }

    static void run() throws Exception {
        constants();
        headings();
        Set<String> methods = publicMethods();
        Check.holds("the public methods are those of the document, not " + methods,
            methods.equals(new TreeSet<>(Arrays.asList(METHODS))));
        Set<String> constants = publicFields();
        Check.holds("the public fields are those of the document, not " + constants,
            constants.equals(new TreeSet<>(Arrays.asList(CONSTANTS))));
        Constructor<?>[] constructors = ExhibitTexts.class.getDeclaredConstructors();
        Check.holds("there is one constructor, public and without parameters", constructors.length == 1
            && Modifier.isPublic(constructors[0].getModifiers()) && constructors[0].getParameterCount() == 0);
        int modifiers = ExhibitTexts.class.getModifiers();
        Check.holds("the class is public and final", Modifier.isPublic(modifiers) && Modifier.isFinal(modifiers));
    }

    private static void constants() {
        Check.due("UNKNOWN", ExhibitTexts.UNKNOWN, -1);
        Check.due("BAD_VALUE", ExhibitTexts.BAD_VALUE, -2);
        Check.due("FULL", ExhibitTexts.FULL, -3);
        Check.due("NOT_POSSIBLE", ExhibitTexts.NOT_POSSIBLE, -4);
        Check.due("NONE", ExhibitTexts.NONE, -5);
    }

    /** The methods stand in the document's order, each behind its heading; private ones may follow with their own. */
    private static void headings() throws Exception {
        List<String> found = new ArrayList<>();
        for (String line : Files.readAllLines(SOURCE)) {
            Matcher matcher = HEADING_OR_METHOD.matcher(line);
            if (matcher.matches() && found.size() < HEADINGS.length) {
                found.add(matcher.group(1) == null ? matcher.group(2) : matcher.group(1));
            }
        }
        Check.same("headings and methods of the interface", found, List.of(HEADINGS));
    }

    private static Set<String> publicMethods() {
        Set<String> found = new TreeSet<>();
        for (Method method : ExhibitTexts.class.getDeclaredMethods()) {
            if (!Modifier.isPrivate(method.getModifiers()) && !method.isSynthetic()) {
                String parameters = Arrays.toString(method.getParameterTypes());
                found.add(method.getReturnType() + " " + method.getName()
                    + "(" + parameters.substring(1, parameters.length() - 1) + ")");
            }
        }
        return found;
    }

    private static Set<String> publicFields() {
        Set<String> found = new TreeSet<>();
        for (Field field : ExhibitTexts.class.getDeclaredFields()) {
            if (!Modifier.isPrivate(field.getModifiers()) && !field.isSynthetic()) {
                found.add(field.getName());
            }
        }
        return found;
    }
}
