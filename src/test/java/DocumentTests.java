import java.io.IOException;
import java.lang.reflect.Method;
import java.nio.file.Files;
import java.nio.file.Path;
import java.util.ArrayList;
import java.util.Arrays;
import java.util.LinkedHashMap;
import java.util.List;
import java.util.Map;
import java.util.regex.Matcher;
import java.util.regex.Pattern;

/**
 * Holds the tests to the document: the words that a test says stand there, and each word of its first section, of
 * the terms and of the promises is said by a test. Holds the source to the face and to the order that the document
 * gives it. Run from the project's root.
 */
public final class DocumentTests {
    private static final Path DOCUMENT = Path.of("../shared/DOC.md");
    private static final List<Class<?>> TESTS = List.of(TermsBoundaries.class, ActsBoundaries.class,
        TextsAndHistoryBoundaries.class, ToldBoundaries.class, ChangesOfActs.class, RefusedCalls.class);

    private static final Path SOURCE = Path.of("src/main/java/PeerNotes.java");

    /** "Ahead of the calls `a`, `b` the interface says: ---- c." */
    private static final Pattern AHEAD = Pattern.compile("Ahead of the calls (`.*`) the interface says: (---- .*)\\.");

    private static int wrong = 0;

    public static void main(String[] args) throws IOException {
        if (!Files.exists(DOCUMENT)) {
            System.out.println("the document is not there: nothing to hold the tests to");
            return;
        }
        Map<String, String> sections = sections();
        Map<String, List<String>> said = said();
        wordsStandThere(sections, said);
        int words = everyWordIsSaid(sections, said);
        faceStandsInTheSource();
        headingsStandInTheSource();
        System.out.println(words + " words of the document looked at, " + wrong + " faults");
        if (wrong != 0) {
            System.exit(1);
        }
    }

    private static void fault(String text) {
        wrong++;
        System.out.println(text);
    }

    /** The text of each section of the terms and of each promise, by its name. */
    private static Map<String, String> sections() throws IOException {
        Map<String, String> sections = new LinkedHashMap<>();
        String name = "";
        for (String line : Files.readAllLines(DOCUMENT)) {
            if (line.matches("[A-Z ]+")) {
                name = line;
            } else if (line.startsWith("## Promise ")) {
                name = line.substring(3, line.indexOf(':'));
            } else if (line.startsWith("#")) {
                name = line.equals("## Terms") || line.equals("## What it is") ? line.substring(3) : "";
            } else if (!name.isEmpty() && !line.matches(AHEAD.pattern())) {
                sections.merge(name, line, (before, next) -> before + "\n" + next);
            }
        }
        return sections;
    }

    private static Map<String, List<String>> said() {
        Map<String, List<String>> said = new LinkedHashMap<>();
        for (Class<?> tests : TESTS) {
            for (Method method : Sentences.testsOf(tests)) {
                Says says = method.getAnnotation(Says.class);
                said.computeIfAbsent(says.in(), name -> new ArrayList<>()).addAll(List.of(says.value()));
            }
        }
        return said;
    }

    private static void wordsStandThere(Map<String, String> sections, Map<String, List<String>> said) {
        said.forEach((name, all) -> {
            for (String words : all) {
                if (!sections.getOrDefault(name, "").contains(words)) {
                    fault("a test says what does not stand in the section " + name + ": " + words);
                }
            }
        });
    }

    /** Returns how many words were looked at. */
    private static int everyWordIsSaid(Map<String, String> sections, Map<String, List<String>> said) {
        int words = 0;
        for (Map.Entry<String, String> section : sections.entrySet()) {
            // The signature of a call is looked for in the source.
            String text = section.getValue().replaceAll("(?m)^(`(int )?\\w+\\(.*?\\)`: |[0-9]\\. )", "");
            words += text.split("\\W+").length;
            for (String unsaid : withoutSaid(text, said.getOrDefault(section.getKey(), List.of())).split("\n")) {
                if (unsaid.matches(".*\\w.*")) {
                    fault("no test says what stands in the section " + section.getKey() + ": " + unsaid.strip());
                }
            }
        }
        return words;
    }

    /** The text, with a new line in place of what is said. */
    private static String withoutSaid(String text, List<String> said) {
        char[] left = text.toCharArray();
        for (String words : said) {
            for (int at = text.indexOf(words); at >= 0; at = text.indexOf(words, at + 1)) {
                Arrays.fill(left, at, at + words.length(), '\n');
            }
        }
        return new String(left);
    }

    /** Each row of the face stands in the source, with the names of its parameters, and in this order. */
    private static void faceStandsInTheSource() throws IOException {
        String source = Files.readString(SOURCE);
        int rows = 0;
        int from = 0;
        for (String line : Files.readAllLines(DOCUMENT)) {
            if (line.matches("    public .*;")) {
                rows++;
                String row = line.contains("=") ? line : line.replaceFirst(";$", " {");
                int found = source.indexOf("\n" + row + "\n", from);
                if (found < 0) {
                    fault("the source has not, or not in its place: " + row);
                } else {
                    from = found;
                }
            }
        }
        if (rows != 31 || !source.contains("\npublic final class PeerNotes {\n")) {
            fault("not the face of the class PeerNotes, with 31 rows: " + rows);
        }
    }

    /** Each call stands below the heading that the document puts ahead of it, and below no later one. */
    private static void headingsStandInTheSource() throws IOException {
        Map<String, String> headings = new LinkedHashMap<>();
        String heading = "";
        for (String line : Files.readAllLines(SOURCE)) {
            Matcher method = Pattern.compile("    public int (\\w+)\\(.*").matcher(line);
            if (line.startsWith("    // ---- ")) {
                heading = line.replace("    // ", "");
            } else if (method.matches()) {
                headings.put(method.group(1), heading);
            }
        }
        int calls = 0;
        for (String line : Files.readAllLines(DOCUMENT)) {
            Matcher ahead = AHEAD.matcher(line);
            for (String call : ahead.matches() ? ahead.group(1).replace("`", "").split(", ") : new String[0]) {
                calls++;
                if (!ahead.group(2).equals(headings.get(call))) {
                    fault(call + " stands below " + headings.get(call) + ", not below " + ahead.group(2));
                }
            }
        }
        if (calls != headings.size()) {
            fault("the document has headings for " + calls + " calls, the source has " + headings.size());
        }
    }
}
