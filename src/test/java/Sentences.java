import java.nio.file.Files;
import java.nio.file.Path;
import java.util.LinkedHashSet;
import java.util.List;
import java.util.Set;

/** The sentences of the document under their headings, and which of them have had their test. */
final class Sentences {
    private static final Set<String> HEADINGS = new LinkedHashSet<>();
    private static final Set<String> ALL = new LinkedHashSet<>();
    private static final Set<String> TESTED = new LinkedHashSet<>();

    private Sentences() {
    }

    static void read() throws Exception {
        boolean inCode = false;
        String heading = "";
        for (String line : Files.readAllLines(Path.of("../shared/DOC.md"))) {
            if (line.startsWith("```")) {
                inCode = !inCode;
            } else if (line.startsWith("#") && !inCode) {
                heading = line.replaceFirst("#+ ", "");
                HEADINGS.add(heading);
            } else if (!inCode && !line.isEmpty()) {
                keep(heading, line);
            }
        }
    }

    /** A line is one parameter, or one exception, or some sentences, of a promise behind its signature. */
    private static void keep(String heading, String line) {
        String text = line.startsWith("- ") ? line : line.replaceFirst("^`[^`]*`: ", "");
        for (String sentence : text.split("(?<=\\.)\\s+(?=[A-Z])")) {
            ALL.add(heading + " | " + sentence);
        }
    }

    /** Marks a sentence as tested and answers what the checks of this test are to be called. */
    static String test(String heading, String sentence) {
        String named = heading;
        for (String candidate : HEADINGS) {
            if (candidate.startsWith(heading + ":")) {
                named = candidate;
            }
        }
        String key = named + " | " + sentence;
        Checks.due("the document says: " + key, true, () -> ALL.contains(key));
        Checks.due("one test alone is for: " + key, true, () -> TESTED.add(key));
        return key;
    }

    static void end() {
        for (String sentence : ALL) {
            if (!namesNoBoundary(sentence)) {
                Checks.due("has a test: " + sentence, true, () -> TESTED.contains(sentence));
            }
        }
        Checks.due("there are sentences", true, () -> ALL.size() > 200);
    }

    private static boolean namesNoBoundary(String sentence) {
        List<String> forms = List.of(
                "What it is \\| A monastery of engines: .*",
                "Terms \\| [A-Z][a-z]+\\.",
                "Terms \\| Ahead of the calls .*",
                "Not promised \\| .*",
                // What these promise, the sentences around them say with their numbers.
                "Promise .* \\| - `\\w+`: [^0-9]*",
                "Promise .* \\| Returns the \\w+( \\w+){0,3}\\.");
        return forms.stream().anyMatch(sentence::matches);
    }
}
