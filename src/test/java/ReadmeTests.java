import java.io.IOException;
import java.lang.reflect.Field;
import java.lang.reflect.Method;
import java.lang.reflect.Modifier;
import java.nio.file.Files;
import java.nio.file.Path;
import java.util.ArrayList;
import java.util.HashMap;
import java.util.List;
import java.util.Map;
import java.util.regex.Matcher;
import java.util.regex.Pattern;
import java.util.stream.Stream;

/** Holds README.md to the class and to the tests. Run from the project's root. */
public final class ReadmeTests {
    private static final Path README = Path.of("README.md");
    private static final Path SOURCE = Path.of("src/main/java/PeerNotes.java");
    private static final Path TESTS = Path.of("src/test/java");
    private static final Pattern MAKING = Pattern.compile("PeerNotes \\w+ = new PeerNotes\\(\\);");
    /** "int loan = market.openLoan(1000, 20, 4); // 0: .." */
    private static final Pattern CALL = Pattern.compile("(?:int (\\w+) = )?market\\.(\\w+)\\((.*)\\); +// (-?\\d+)\\b.*");

    private static int wrong = 0;

    public static void main(String[] args) throws IOException, ReflectiveOperationException {
        String readme = Files.readString(README);
        example(readme);
        callsAreNamed(readme);
        constantsAreNamed(readme);
        testsAreNamed(readme);
        faultOfTheText(readme);
        System.out.println(wrong == 0 ? "README.md is right" : wrong + " faults");
        if (wrong != 0) {
            System.exit(1);
        }
    }

    private static void fault(String text) {
        wrong++;
        System.out.println(text);
    }

    /** Makes the calls of the example, and compares each answer with the number behind it. */
    private static void example(String readme) throws ReflectiveOperationException {
        Map<String, Integer> known = new HashMap<>();
        PeerNotes market = new PeerNotes();
        int calls = 0;
        for (String line : between(readme, "```java\n", "```").split("\n")) {
            Matcher call = CALL.matcher(line);
            if (call.matches()) {
                calls++;
                int answer = call(market, call.group(2), call.group(3), known);
                if (answer != Integer.parseInt(call.group(4))) {
                    fault("the example is answered with " + answer + ": " + line);
                }
                known.put(call.group(1), answer);
            } else if (!MAKING.matcher(line).matches()) {
                fault("the example has a line that is no call: " + line);
            }
        }
        if (calls == 0) {
            fault("the example has no calls");
        }
    }

    private static int call(PeerNotes market, String name, String written, Map<String, Integer> known)
            throws ReflectiveOperationException {
        List<Object> values = new ArrayList<>();
        for (String value : written.isEmpty() ? new String[0] : written.split(", ")) {
            if (value.equals("true") || value.equals("false")) {
                values.add(value.equals("true"));
            } else {
                values.add(known.containsKey(value) ? known.get(value) : Integer.valueOf(value));
            }
        }
        for (Method method : PeerNotes.class.getMethods()) {
            if (method.getName().equals(name)) {
                return (int) method.invoke(market, values.toArray());
            }
        }
        throw new NoSuchMethodException(name);
    }

    private static String between(String text, String from, String to) {
        int begin = text.indexOf(from) + from.length();
        int end = text.indexOf(to, begin);
        return begin < from.length() || end < 0 ? "" : text.substring(begin, end);
    }

    /** Each call is named with its parameters, in the order of the source. */
    private static void callsAreNamed(String readme) throws IOException {
        Matcher method = Pattern.compile("(?m)^    public int (\\w+)\\((.*)\\) \\{$").matcher(Files.readString(SOURCE));
        int calls = 0;
        while (method.find()) {
            calls++;
            String call = "`" + method.group(1) + "(" + method.group(2).replaceAll("(int|boolean|char) ", "") + ")`";
            if (!readme.contains(call)) {
                fault("README.md does not name " + call);
            }
        }
        if (calls != 25) {
            fault("the source has not 25 calls, but " + calls);
        }
    }

    private static void constantsAreNamed(String readme) throws IllegalAccessException {
        for (Field field : PeerNotes.class.getDeclaredFields()) {
            if (Modifier.isPublic(field.getModifiers())) {
                String row = "| `" + field.getName() + "` | " + field.getInt(null) + " |";
                if (!readme.contains(row)) {
                    fault("README.md has no row " + row);
                }
            }
        }
    }

    /** Each test is named, and each that is named is there. */
    private static void testsAreNamed(String readme) throws IOException {
        List<String> there;
        try (Stream<Path> files = Files.list(TESTS)) {
            there = files.map(file -> file.getFileName().toString().replace(".java", "")).toList();
        }
        for (String name : there) {
            if (!readme.contains("`" + name + "`")) {
                fault("README.md does not name the test " + name);
            }
        }
        Matcher named = Pattern.compile("`(\\w+(Tests|Boundaries|Runs|Calls|Acts))`").matcher(readme);
        while (named.find()) {
            if (!there.contains(named.group(1))) {
                fault("README.md names a test that is not there: " + named.group(1));
            }
        }
    }

    /** "`0>0s250;1>0j400` is a text of two fundings, and `0>0s250;x` is answered with -108." */
    private static void faultOfTheText(String readme) {
        Matcher said = Pattern.compile("`(\\S+)` is a text\\s+of two fundings, and `(\\S+)` is answered with (-\\d+)\\.")
            .matcher(readme);
        if (!said.find()) {
            fault("README.md tells of no text with a fault");
            return;
        }
        int sound = Markets.read(funded(), said.group(1));
        if (sound != 2) {
            fault("the text of README.md is answered with " + sound);
        }
        int fault = Markets.read(funded(), said.group(2));
        if (fault != Integer.parseInt(said.group(3))) {
            fault("the text of README.md that has a fault is answered with " + fault);
        }
    }

    private static PeerNotes funded() {
        PeerNotes market = Markets.withInvestors(1000, 1000);
        market.openLoan(1000, 0, 1);
        return market;
    }
}
