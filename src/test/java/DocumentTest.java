import java.io.IOException;
import java.io.UncheckedIOException;
import java.nio.file.Files;
import java.nio.file.Path;
import java.util.LinkedHashMap;
import java.util.List;
import java.util.Map;

/**
 * The sentences that tests hold against ../shared/DOC.md: each stands there word for word, and every sentence of the
 * terms and the promises is held by a test.
 */
final class DocumentTest {
    private static final Path DOCUMENT = Path.of("../shared/DOC.md");
    private static final String LONE_SENTENCE = "An object is used for at most 512 calls after it has been made";
    /** Which methods stand behind which heading of the interface: FaceTest looks at that. */
    private static final String HEADINGS_OF_THE_INTERFACE = "Ahead of the calls";

    private DocumentTest() {
    }

    /** Each of what is held is a section's name, ": ", and words of it. */
    static void run(List<String> held) {
        if (!Files.exists(DOCUMENT)) {
            System.out.println("there is no " + DOCUMENT + ": the tests' names are not compared with it");
            return;
        }
        Map<String, StringBuilder> sections = sections();
        for (String words : held) {
            Check.holds("the document says \"" + words + "\"", stands(words, sections));
        }
        int sentences = 0;
        for (Map.Entry<String, StringBuilder> section : sections.entrySet()) {
            for (String sentence : sentencesOf(section.getKey(), section.getValue().toString())) {
                sentences++;
                Check.holds("a test holds \"" + section.getKey() + ": " + sentence + "\"",
                    isHeld(section.getKey(), sentence, held));
            }
        }
        Check.holds("the document has sentences", sentences > 100);
    }

    private static boolean stands(String held, Map<String, StringBuilder> sections) {
        int end = held.indexOf(": ");
        StringBuilder section = end < 0 ? null : sections.get(held.substring(0, end));
        return section != null && section.toString().replace('\n', ' ').contains(held.substring(end + 2));
    }

    private static boolean isHeld(String section, String sentence, List<String> held) {
        for (String words : held) {
            if (words.startsWith(section + ": ")) {
                String quoted = words.substring(section.length() + 2);
                if (sentence.contains(quoted) || quoted.contains(sentence)) {
                    return true;
                }
            }
        }
        return false;
    }

    /** The terms by their headings, the promises by their numbers, and the introduction, each line by line. */
    private static Map<String, StringBuilder> sections() {
        Map<String, StringBuilder> sections = new LinkedHashMap<>();
        StringBuilder section = null;
        try {
            for (String line : Files.readAllLines(DOCUMENT)) {
                String heading = heading(line);
                if (heading != null) {
                    section = new StringBuilder();
                    sections.put(heading, section);
                } else if (section != null && !line.isBlank()) {
                    section.append(line).append('\n');
                }
            }
        } catch (IOException thrown) {
            throw new UncheckedIOException(thrown);
        }
        sections.keySet().removeIf(name -> name.equals("The public face") || name.equals("Not promised")
            || name.equals("Terms"));
        return sections;
    }

    private static String heading(String line) {
        if (line.startsWith("## Promise ")) {
            return line.substring(3, line.indexOf(':'));
        }
        if (line.startsWith("## ")) {
            return line.substring(3);
        }
        if (line.matches("[A-Z][A-Z, ]+")) {
            return line.charAt(0) + line.substring(1).toLowerCase();
        }
        return null;
    }

    private static List<String> sentencesOf(String section, String lines) {
        if (section.equals("What it is")) {
            return List.of(LONE_SENTENCE);
        }
        return lines.lines()
            .filter(line -> !line.startsWith(HEADINGS_OF_THE_INTERFACE))
            .map(line -> line.replaceFirst("^`(?:int \\w+|ExhibitTexts)\\([^`]*`: ", "").replaceFirst("^- ", ""))
            .flatMap(line -> List.of(line.split("(?<=[.)]) (?=[A-Z(])|; |, (?=\\d+ for )")).stream())
            .map(sentence -> sentence.replaceFirst("\\.$", ""))
            .toList();
    }
}
