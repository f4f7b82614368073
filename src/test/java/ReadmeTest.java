import java.io.IOException;
import java.io.UncheckedIOException;
import java.net.URL;
import java.net.URLClassLoader;
import java.nio.file.Files;
import java.nio.file.Path;
import java.util.ArrayList;
import java.util.List;
import java.util.regex.Matcher;
import java.util.regex.Pattern;
import java.util.stream.Stream;
import javax.tools.JavaCompiler;
import javax.tools.ToolProvider;

/** README.md: its lines of use compile and answer as it says, and what it names is there. */
final class ReadmeTest {
    private static final Path README = Path.of("README.md");
    private static final Path TESTS = Path.of("src/test/java");
    /** .gitignore keeps this folder out, and .ci/run empties it. */
    private static final Path BUILD = Path.of("build/readme");
    private static final String PROGRAM = "ReadmeUse";
    /** A call, and behind it the answer as a number or a constant's name. */
    private static final Pattern ANSWERED = Pattern.compile("\\s*(carousel\\.\\w+\\(.*\\)); +// (-?\\d+|[A-Z_]+): .+");
    private static final Pattern ANSWER_OF_THE_TABLE = Pattern.compile("\\| `([A-Z_]+)`, (-\\d) \\|.*");

    private ReadmeTest() {
    }

    static void run() throws Exception {
        List<String> page = Files.readAllLines(README);
        linesOfUse(page);
        constants(page);
        commands(page);
        testsAreNamed(page);
    }

    // ---- the lines of use

    private static void linesOfUse(List<String> page) throws ReflectiveOperationException, IOException {
        List<String> calls = new ArrayList<>();
        List<String> wanted = new ArrayList<>();
        String program = program(page, calls, wanted);
        Check.holds("README.md shows some calls with their answers", calls.size() > 10);
        int[] answers = answers(program);
        Check.due("README.md's lines of use: answers", answers.length, calls.size());
        for (int i = 0; i < answers.length; i++) {
            Check.due("README.md: " + calls.get(i), answers[i], numberOf(wanted.get(i)));
        }
    }

    /** A program of the lines between the signs of Java, which collects what the calls answer. */
    private static String program(List<String> page, List<String> calls, List<String> wanted) {
        StringBuilder lines = new StringBuilder();
        boolean inside = false;
        for (String line : page) {
            if (line.startsWith("```")) {
                inside = line.equals("```java");
                continue;
            }
            Matcher answered = ANSWERED.matcher(line);
            if (!inside) {
                continue;
            }
            if (answered.matches()) {
                lines.append("answers[").append(calls.size()).append("] = ").append(answered.group(1)).append(";\n");
                calls.add(answered.group(1));
                wanted.add(answered.group(2));
            } else {
                Check.holds("README.md says what is answered by: " + line,
                    !line.contains("carousel.") || line.contains("carousel.type("));
                lines.append(line).append('\n');
            }
        }
        return "public final class " + PROGRAM + " {\npublic static int[] answers() {\nint[] answers = new int["
            + calls.size() + "];\n" + lines + "return answers;\n}\n}\n";
    }

    private static int[] answers(String program) throws ReflectiveOperationException, IOException {
        Path source = BUILD.resolve(PROGRAM + ".java");
        Files.createDirectories(BUILD);
        Files.writeString(source, program);
        JavaCompiler compiler = ToolProvider.getSystemJavaCompiler();
        boolean compiled = compiler != null && compiler.run(null, null, null, "-d", BUILD.toString(),
            "-cp", System.getProperty("java.class.path"), source.toString()) == 0;
        Check.holds("README.md's lines of use compile", compiled);
        if (!compiled) {
            return new int[0];
        }
        try (URLClassLoader loader = new URLClassLoader(new URL[] {BUILD.toUri().toURL()})) {
            return (int[]) loader.loadClass(PROGRAM).getMethod("answers").invoke(null);
        }
    }

    private static long numberOf(String answer) throws ReflectiveOperationException {
        return Character.isLetter(answer.charAt(0)) ? ExhibitTexts.class.getField(answer).getInt(null)
            : Long.parseLong(answer);
    }

    // ---- what is named

    private static void constants(List<String> page) throws ReflectiveOperationException {
        int found = 0;
        for (String line : page) {
            Matcher constant = ANSWER_OF_THE_TABLE.matcher(line);
            if (constant.matches()) {
                found++;
                Check.due("README.md: " + constant.group(1), numberOf(constant.group(1)),
                    Long.parseLong(constant.group(2)));
            }
        }
        Check.due("README.md: constants that are explained", found, ExhibitTexts.class.getFields().length);
    }

    private static void commands(List<String> page) {
        Check.holds("README.md names the command that runs the tests", page.contains("    bash .ci/run"));
        Check.holds(".ci/run can be run", Files.isExecutable(Path.of(".ci/run")));
        Check.holds("README.md names the program's file",
            page.contains("    javac -d out src/main/java/ExhibitTexts.java Visit.java")
            && Files.exists(Path.of("src/main/java/ExhibitTexts.java")));
    }

    private static void testsAreNamed(List<String> page) throws IOException {
        List<String> named = page.stream().filter(line -> line.matches("\\| `\\w+(?:Test|Sentences)` \\|.*"))
            .map(line -> line.replaceAll("\\| `(\\w+)`.*", "$1")).sorted().toList();
        try (Stream<Path> files = Files.list(TESTS)) {
            List<String> there = files.filter(ReadmeTest::isTest)
                .map(file -> file.getFileName().toString().replace(".java", "")).sorted().toList();
            Check.same("README.md's table of tests", named, there);
        }
    }

    /** The classes that tests share bear other names, or are abstract. */
    private static boolean isTest(Path file) {
        try {
            return file.getFileName().toString().matches("\\w+(?:Test|Sentences)\\.java")
                && !Files.readString(file).contains("\nabstract class");
        } catch (IOException thrown) {
            throw new UncheckedIOException(thrown);
        }
    }
}
