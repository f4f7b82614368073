import java.lang.reflect.Field;
import java.lang.reflect.Method;
import java.lang.reflect.Modifier;
import java.nio.file.Files;
import java.nio.file.Path;
import java.util.HashSet;
import java.util.Set;
import java.util.regex.Matcher;
import java.util.regex.Pattern;

/** What can be seen of the rules of ../shared/LANGUAGE.md without reading the program as a person does. */
final class LanguageTest {
    private static final String SOURCE = "src/main/java/ExhibitTexts.java";
    private static final String[] FORBIDDEN = {
        "\\bthrow\\b", "\\btry\\b", "\\bcatch\\b", "\\bsynchronized\\b", "\\bassert\\b", "\\bpackage\\b",
        "->", "::", "\\bstatic\\s*\\{", "\\bequals\\b", "\\bhashCode\\b", "\\btoString\\b", "\\bSystem\\.(?!arraycopy)",
        "\\b(?:Math|Integer|Long)\\.\\w+Exact\\b", "\\bimport\\b(?! java\\.util\\.(?:Arrays|ArrayList|List);)"
    };
    private static final int MOST_LINES_OF_A_METHOD = 60;
    private static final int MOST_FIELDS = 20;

    private LanguageTest() {
    }

    static void run() throws Exception {
        String source = Files.readString(Path.of(SOURCE));
        String code = source.replaceAll("(?s)/\\*.*?\\*/", "").replaceAll("//[^\n]*", "");
        for (String words : FORBIDDEN) {
            Matcher matcher = Pattern.compile(words).matcher(code);
            Check.holds("the program is without " + words, !matcher.find());
        }
        Check.holds("the program's signs are 1 to 127", source.chars().allMatch(c -> c >= 1 && c <= 127));
        methodsAreShort(code);
        classes();
    }

    private static void methodsAreShort(String code) {
        int start = -1;
        String[] lines = code.split("\n");
        for (int i = 0; i < lines.length; i++) {
            if (lines[i].matches("(?:    |        )\\w.*\\)\\s*\\{")) {
                start = i;
            } else if (start >= 0 && lines[i].matches("(?:    |        )\\}")) {
                Check.holds("short: " + lines[start].trim(), i - start < MOST_LINES_OF_A_METHOD);
                start = -1;
            }
        }
    }

    private static void classes() {
        Set<String> publicNames = new HashSet<>();
        for (Method method : ExhibitTexts.class.getDeclaredMethods()) {
            if (Modifier.isPublic(method.getModifiers())) {
                publicNames.add(method.getName());
            }
        }
        oneClass(ExhibitTexts.class, publicNames);
        for (Class<?> inside : ExhibitTexts.class.getDeclaredClasses()) {
            Check.holds(inside + " is static", Modifier.isStatic(inside.getModifiers()));
            oneClass(inside, publicNames);
        }
    }

    private static void oneClass(Class<?> one, Set<String> publicNames) {
        int fields = 0;
        for (Field field : one.getDeclaredFields()) {
            if (Modifier.isStatic(field.getModifiers())) {
                Check.holds(field + " is final", Modifier.isFinal(field.getModifiers()));
            } else {
                fields++;
            }
        }
        Check.holds(one + " has no more than some twenty fields", fields <= MOST_FIELDS);
        for (Method method : one.getDeclaredMethods()) {
            Check.holds(method + " has at most seven parameters", method.getParameterCount() <= 7);
            Check.holds(method + " bears no public method's name",
                Modifier.isPublic(method.getModifiers()) || !publicNames.contains(method.getName()));
        }
    }
}
