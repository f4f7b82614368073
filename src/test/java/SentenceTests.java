import java.lang.reflect.InvocationTargetException;
import java.lang.reflect.Method;
import java.lang.reflect.Modifier;
import java.util.ArrayList;
import java.util.Arrays;
import java.util.Comparator;
import java.util.List;

/** Runs the tests of single sentences of the document: every method that bears {@link Holds}. */
final class SentenceTests {
    private static final Class<?>[] GROUPS = {
        TextSentences.class, EntrySentences.class, VisitorSentences.class, HistorySentences.class,
        ErrorSentences.class, TellingSentences.class
    };

    private SentenceTests() {
    }

    static void run() throws IllegalAccessException {
        List<String> held = new ArrayList<>();
        for (Class<?> group : GROUPS) {
            for (Method test : testsOf(group)) {
                runTest(test);
                held.addAll(Arrays.asList(test.getAnnotation(Holds.class).value()));
            }
        }
        Check.begin("DocumentTest");
        DocumentTest.run(held);
    }

    /** The methods of a group that others may call; helpers are private. */
    private static List<Method> testsOf(Class<?> group) {
        List<Method> tests = new ArrayList<>();
        for (Method method : group.getDeclaredMethods()) {
            if (Modifier.isPrivate(method.getModifiers()) || method.isSynthetic()) {
                continue;
            }
            boolean named = method.isAnnotationPresent(Holds.class);
            Check.begin(group.getName() + "." + method.getName());
            Check.holds("it names the sentence that it holds", named);
            if (named) {
                tests.add(method);
            }
        }
        tests.sort(Comparator.comparing(Method::getName));
        return tests;
    }

    private static void runTest(Method test) throws IllegalAccessException {
        String sentences = String.join("; ", test.getAnnotation(Holds.class).value());
        Check.begin(test.getDeclaringClass().getName() + "." + test.getName() + " [" + sentences + "]");
        int before = Check.right() + Check.wrong();
        try {
            test.invoke(null);
        } catch (InvocationTargetException thrown) {
            Check.holds("no call threw as one did now: " + thrown.getCause(), false);
        }
        Check.holds("it looks at an answer", Check.right() + Check.wrong() > before);
    }
}
