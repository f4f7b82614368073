import java.lang.reflect.Field;
import java.lang.reflect.Method;
import java.lang.reflect.Modifier;
import java.nio.file.Files;
import java.nio.file.Path;
import java.util.HashMap;
import java.util.HashSet;
import java.util.Map;
import java.util.Set;
import java.util.regex.Matcher;
import java.util.regex.Pattern;

/** What can be seen of the rules of ../shared/LANGUAGE.md without reading the program as a person does. */
final class LanguageTest {
    private static final String SOURCE = "src/main/java/ExhibitTexts.java";
    private static final String[] FORBIDDEN = {
        "\\bthrow\\b", "\\btry\\b", "\\bcatch\\b", "\\bsynchronized\\b", "\\bassert\\b", "\\bpackage\\b",
        "->", "::", "\\bstatic\\s*\\{", "\\bequals\\b", "\\bhashCode\\b", "\\btoString\\b", "\\bSystem\\.(?!arraycopy)",
        "\\b(?:Math|Integer|Long)\\.\\w+Exact\\b", "\\bimport\\b(?! java\\.util\\.(?:Arrays|ArrayList|List);)"
    };
    /** A static function of a class, or an object or array that is made. */
    private static final Pattern IN_USE = Pattern.compile("\\b([A-Z]\\w*)\\.\\w+|\\bnew (\\w+)");
    /** All that the program uses of these; each is in the rules' list. One more is to be looked up there first. */
    private static final Set<String> LOOKED_UP = Set.of("System.arraycopy", "Math.max", "Math.min", "Math.floorMod",
        "Integer.bitCount", "new State", "new Pad", "new int", "new char");
    private static final Pattern METHOD = Pattern.compile("(?:    |        )(?:\\w+ )*?(\\w+)\\([^;=]*\\{");
    private static final Pattern CALL = Pattern.compile("\\b([a-z]\\w*)\\(");
    private static final int MOST_LINES_OF_A_METHOD = 60;
    private static final int MOST_FIELDS = 20;
    private static final int MOST_CLASSES = 12;
    private static final int MOST_CALLS_DEEP = 8;

    private LanguageTest() {
    }

    static void run() throws Exception {
        String source = Files.readString(Path.of(SOURCE));
        String code = source.replaceAll("(?s)/\\*.*?\\*/", "").replaceAll("//[^\n]*", "");
        for (String words : FORBIDDEN) {
            Matcher matcher = Pattern.compile(words).matcher(code);
            Check.holds("the program is without " + words, !matcher.find());
        }
        Check.holds("the program's signs are 1 to 127", source.chars().allMatch(c -> c >= 1 && c <= 127));
        methodsAreShort(code);
        libraryIsAllowed(code);
        callsAreFewDeep(code);
        classes();
    }

    private static void libraryIsAllowed(String code) {
        Matcher matcher = IN_USE.matcher(code);
        while (matcher.find()) {
            Check.holds(matcher.group() + " is looked up", LOOKED_UP.contains(matcher.group()));
        }
    }

    /** No method calls itself, and few calls stand open at once; all methods of the program bear different names. */
    private static void callsAreFewDeep(String code) {
        Map<String, Set<String>> calls = new HashMap<>();
        Set<String> called = null;
        for (String line : code.split("\n")) {
            Matcher method = METHOD.matcher(line);
            if (method.matches()) {
                called = new HashSet<>();
                Check.holds("one method bears the name " + method.group(1),
                    calls.put(method.group(1), called) == null);
            } else if (called != null) {
                Matcher call = CALL.matcher(line);
                while (call.find()) {
                    called.add(call.group(1));
                }
            }
        }
        Check.holds("methods were found", calls.size() > FaceTest.METHODS.length);
        for (String method : calls.keySet()) {
            int deep = depth(method, calls, 0);
            Check.holds(method + " is " + deep + " calls deep, at most " + MOST_CALLS_DEEP, deep <= MOST_CALLS_DEEP);
        }
    }

    /** How many calls stand open at once; one more than is allowed where methods call one another without an end. */
    private static int depth(String method, Map<String, Set<String>> calls, int open) {
        Set<String> called = calls.get(method);
        if (called == null || open > MOST_CALLS_DEEP) {
            return open;
        }
        int deepest = open + 1;
        for (String next : called) {
            deepest = Math.max(deepest, depth(next, calls, open + 1));
        }
        return deepest;
    }

    private static void methodsAreShort(String code) {
        int start = -1;
        String[] lines = code.split("\n");
        for (int i = 0; i < lines.length; i++) {
            if (lines[i].matches("(?:    |        )\\w.*\\)\\s*\\{")) {
                start = i;
            } else if (start >= 0 && lines[i].matches("(?:    |        )\\}")) {
                Check.holds("short: " + lines[start].trim(), i - start < MOST_LINES_OF_A_METHOD);
                start = -1;
            }
        }
    }

    private static void classes() {
        Set<String> publicNames = new HashSet<>();
        for (Method method : ExhibitTexts.class.getDeclaredMethods()) {
            if (Modifier.isPublic(method.getModifiers())) {
                publicNames.add(method.getName());
            }
        }
        oneClass(ExhibitTexts.class, publicNames);
        Class<?>[] classes = ExhibitTexts.class.getDeclaredClasses();
        Check.holds("the file has no more than some twelve classes", classes.length < MOST_CLASSES);
        for (Class<?> inside : classes) {
            Check.holds(inside + " is static", Modifier.isStatic(inside.getModifiers()));
            oneClass(inside, publicNames);
        }
    }

    private static void oneClass(Class<?> one, Set<String> publicNames) {
        int fields = 0;
        for (Field field : one.getDeclaredFields()) {
            if (Modifier.isStatic(field.getModifiers())) {
                Check.holds(field + " is final", Modifier.isFinal(field.getModifiers()));
            } else {
                fields++;
            }
        }
        Check.holds(one + " has no more than some twenty fields", fields <= MOST_FIELDS);
        for (Method method : one.getDeclaredMethods()) {
            Check.holds(method + " has at most seven parameters", method.getParameterCount() <= 7);
            Check.holds(method + " bears no public method's name",
                Modifier.isPublic(method.getModifiers()) || !publicNames.contains(method.getName()));
        }
    }
}
