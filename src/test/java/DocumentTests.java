import java.io.IOException;
import java.lang.reflect.Method;
import java.nio.file.Files;
import java.nio.file.Path;
import java.util.ArrayList;
import java.util.LinkedHashMap;
import java.util.List;
import java.util.Map;

/**
 * Holds the tests to the document: the words that a test says stand there, and each sentence of the terms and of the
 * promises is said by a test. Run from the project's root.
 */
public final class DocumentTests {
    private static final Path DOCUMENT = Path.of("../shared/DOC.md");
    private static final List<Class<?>> TESTS = List.of(TermsBoundaries.class, ActsBoundaries.class,
        TextsAndHistoryBoundaries.class, ToldBoundaries.class, RefusedCalls.class);

    /** What names no boundary case: it only leads to what does, or is told by the tests of what it names. */
    private static final List<String> WITHOUT_BOUNDARIES = List.of(
        "All amounts are whole coins",
        "When coins are shared among notes by some weights",
        "A payment of a loan that runs is split in this order:",
        "Errors are reported by the constants below",
        "The constants:",
        "There is no such investor, servicer, loan or note",
        "Another argument is out of range",
        "There is no more room",
        "This is not possible",
        "There is no such thing",
        "not an error",
        "Returns the number",
        "Returns the coins");

    private static int wrong = 0;

    public static void main(String[] args) throws IOException {
        if (!Files.exists(DOCUMENT)) {
            System.out.println("the document is not there: nothing to hold the tests to");
            return;
        }
        Map<String, String> sections = sections();
        Map<String, List<String>> said = said();
        wordsStandThere(sections, said);
        int sentences = everySentenceIsSaid(sections, said);
        System.out.println(sentences + " pieces of the document looked at, " + wrong + " faults");
        if (wrong != 0) {
            System.exit(1);
        }
    }

    private static void fault(String text) {
        wrong++;
        System.out.println(text);
    }

    /** The text of each section of the terms and of each promise, by its name. */
    private static Map<String, String> sections() throws IOException {
        Map<String, String> sections = new LinkedHashMap<>();
        String name = "";
        for (String line : Files.readAllLines(DOCUMENT)) {
            if (line.matches("[A-Z ]+")) {
                name = line;
            } else if (line.startsWith("## Promise ")) {
                name = line.substring(3, line.indexOf(':'));
            } else if (line.startsWith("#")) {
                name = line.equals("## Terms") || line.equals("## What it is") ? line.substring(3) : "";
            } else if (!name.isEmpty() && !line.matches("(Lending among peers:|Ahead of the calls) .*")) {
                sections.merge(name, line, (before, next) -> before + "\n" + next);
            }
        }
        return sections;
    }

    private static Map<String, List<String>> said() {
        Map<String, List<String>> said = new LinkedHashMap<>();
        for (Class<?> tests : TESTS) {
            for (Method method : Sentences.testsOf(tests)) {
                Says says = method.getAnnotation(Says.class);
                said.computeIfAbsent(says.in(), name -> new ArrayList<>()).addAll(List.of(says.value()));
            }
        }
        return said;
    }

    private static void wordsStandThere(Map<String, String> sections, Map<String, List<String>> said) {
        said.forEach((name, all) -> {
            for (String words : all) {
                if (!sections.getOrDefault(name, "").contains(words)) {
                    fault("a test says what does not stand in the section " + name + ": " + words);
                }
            }
        });
    }

    private static int everySentenceIsSaid(Map<String, String> sections, Map<String, List<String>> said) {
        int looked = 0;
        for (Map.Entry<String, String> section : sections.entrySet()) {
            List<String> all = said.getOrDefault(section.getKey(), List.of());
            for (String piece : pieces(section.getValue())) {
                looked++;
                boolean free = WITHOUT_BOUNDARIES.contains(piece);
                if (!free && all.stream().noneMatch(words -> words.contains(piece) || piece.contains(words))) {
                    fault("no test says what stands in the section " + section.getKey() + ": " + piece);
                }
            }
        }
        return looked;
    }

    /** The sentences of a section, those with ";" or a list of numbers in parts. */
    private static List<String> pieces(String section) {
        List<String> pieces = new ArrayList<>();
        for (String line : section.split("\n")) {
            String text = line.replaceFirst("^`[^`]*\\(.*\\)`: ", "").replaceFirst("^[0-9]\\. ", "");
            for (String piece : text.split("(?<=[.;:])\\s+(?!`)|, (?=[0-9]+ (to [0-9]+ )?for )")) {
                String words = piece.replaceFirst("[.;]$", "").trim();
                if (!words.isEmpty() && !words.matches("`.*`:") && !words.matches("- `.*`:")) {
                    pieces.add(words);
                }
            }
        }
        return pieces;
    }
}
