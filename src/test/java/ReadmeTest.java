import java.io.ByteArrayOutputStream;
import java.io.File;
import java.io.PrintStream;
import java.net.URL;
import java.net.URLClassLoader;
import java.nio.file.Files;
import java.nio.file.Path;
import java.util.Comparator;
import java.util.List;
import java.util.Set;
import java.util.TreeSet;
import java.util.regex.Matcher;
import java.util.regex.Pattern;
import java.util.stream.Collectors;
import java.util.stream.Stream;
import javax.tools.ToolProvider;

/** README.md: its examples print what it says, it names every call and every test, and the command that runs them. */
public final class ReadmeTest {
    public static void main(String[] args) throws Exception {
        String page = Files.readString(Path.of("README.md"));
        examples(page);
        everyCall(page);
        everyTest(page);
        Checks.due("README tells the command of all tests", true, () -> page.contains("```sh\n.ci/run\n```"));
        Checks.due("which is there and can be run", true, () -> Files.isExecutable(Path.of(".ci/run")));
        Checks.end();
    }

    /** An example in Java stands right before the text that it prints. */
    private static void examples(String page) throws Exception {
        Path folder = Files.createTempDirectory("readme");
        try {
            Matcher example = Pattern.compile("(?s)```java\n(.*?)```\n\n```text\n(.*?)```").matcher(page);
            int examples = 0;
            while (example.find()) {
                examples++;
                String name = "Example" + examples;
                String code = example.group(1);
                String due = example.group(2);
                Checks.due("README, example " + examples, due, () -> printed(folder, name, code));
            }
            int found = examples;
            Checks.due("README: each example has its text", page.split("```java").length - 1, () -> found);
            Checks.due("README has examples", true, () -> found > 0);
        } finally {
            remove(folder);
        }
    }

    private static String printed(Path folder, String name, String code) {
        PrintStream before = System.out;
        ByteArrayOutputStream printed = new ByteArrayOutputStream();
        try {
            Path file = folder.resolve(name + ".java");
            Files.writeString(file, "public class " + name + " { public static void main(String[] args) {\n" + code + "} }\n");
            int wrong = ToolProvider.getSystemJavaCompiler().run(null, null, null, "-d", folder.toString(),
                    "-cp", classPath(), file.toString());
            if (wrong != 0) {
                return "does not compile";
            }
            URL[] folders = {folder.toUri().toURL()};
            try (URLClassLoader loader = new URLClassLoader(folders, ReadmeTest.class.getClassLoader())) {
                System.setOut(new PrintStream(printed, true));
                Object parameters = new String[0];
                loader.loadClass(name).getMethod("main", String[].class).invoke(null, parameters);
            }
        } catch (Exception thrown) {
            return printed + "and throws " + thrown;
        } finally {
            System.setOut(before);
        }
        return printed.toString().replace(System.lineSeparator(), "\n");
    }

    private static String classPath() throws Exception {
        return new File(EngineMonastery.class.getProtectionDomain().getCodeSource().getLocation().toURI()).getPath();
    }

    private static void remove(Path folder) throws Exception {
        List<Path> files;
        try (Stream<Path> all = Files.walk(folder)) {
            files = all.sorted(Comparator.reverseOrder()).collect(Collectors.toList());
        }
        for (Path file : files) {
            Files.delete(file);
        }
    }

    /** The table tells the calls of each part in the document's order. */
    private static void everyCall(String page) throws Exception {
        String document = Files.readString(Path.of("../shared/DOC.md"));
        Matcher part = Pattern.compile("Ahead of the calls (.*) the interface says: ---- (.*)\\.").matcher(document);
        int parts = 0;
        while (part.find()) {
            parts++;
            String row = "| " + part.group(2) + " | " + part.group(1) + " |\n";
            Checks.due("README has the row " + row, true, () -> page.contains(row));
        }
        int found = parts;
        Checks.due("the document has parts", 6, () -> found);
    }

    private static void everyTest(String page) throws Exception {
        Set<String> tests = new TreeSet<>();
        try (Stream<Path> files = Files.list(Path.of("src/test/java"))) {
            files.map(file -> file.getFileName().toString()).filter(name -> name.endsWith("Test.java"))
                    .forEach(name -> tests.add(name.replace(".java", "")));
        }
        Set<String> named = new TreeSet<>();
        Matcher row = Pattern.compile("(?m)^\\| `(\\w+Test)` \\|").matcher(page);
        while (row.find()) {
            named.add(row.group(1));
        }
        Checks.due("README names each test", tests, () -> named);
    }
}
