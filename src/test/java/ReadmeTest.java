import java.io.ByteArrayOutputStream;
import java.io.IOException;
import java.io.PrintStream;
import java.nio.charset.StandardCharsets;
import java.nio.file.Files;
import java.nio.file.Path;
import java.util.ArrayList;
import java.util.List;
import java.util.Set;
import java.util.TreeSet;
import java.util.regex.Matcher;
import java.util.regex.Pattern;
import java.util.stream.Stream;

/** What README.md says is so: its program and what that prints, the tests that it names, the files in its commands. */
public final class ReadmeTest {
    private static final Path TESTS = Path.of("src/test/java");

    public static void main(String[] args) throws IOException {
        String readme = Files.readString(Path.of("README.md"), StandardCharsets.UTF_8);
        program(readme);
        testsNamed(readme);
        casesNamed(readme);
        filesNamed(readme);
        Check.end();
    }

    /** The blocks of a readme that are told to be of a language. */
    private static List<String> blocks(String readme, String language) {
        List<String> found = new ArrayList<>();
        Matcher matcher = Pattern.compile("(?s)```" + language + "\n(.*?)```").matcher(readme);
        while (matcher.find()) {
            found.add(matcher.group(1));
        }
        return found;
    }

    private static void program(String readme) throws IOException {
        String example = Files.readString(TESTS.resolve("Example.java"), StandardCharsets.UTF_8);
        List<String> shown = blocks(readme, "java");
        holds("README.md shows Example.java word for word", shown.size() == 1 && shown.get(0).equals(example));
        List<String> told = new ArrayList<>();
        Matcher matcher = Pattern.compile("show\\(.*\\); *// (-?[0-9]+): .*").matcher(example);
        while (matcher.find()) {
            told.add(matcher.group(1));
        }
        Check.due("each answer is told", told.size(), example.split("[ ]show\\(port", -1).length - 1);
        List<String> printed = printedByExample();
        Check.due("answers printed", printed.size(), told.size());
        for (int i = 0; i < Math.min(told.size(), printed.size()); i++) {
            Check.due("Example, answer " + i, Long.parseLong(printed.get(i)), Long.parseLong(told.get(i)));
        }
    }

    private static List<String> printedByExample() {
        PrintStream out = System.out;
        ByteArrayOutputStream bytes = new ByteArrayOutputStream();
        System.setOut(new PrintStream(bytes, true));
        Example.main(new String[0]);
        System.setOut(out);
        return bytes.toString().lines().toList();
    }

    private static void testsNamed(String readme) throws IOException {
        Set<String> there = new TreeSet<>();
        try (Stream<Path> files = Files.list(TESTS)) {
            files.map(file -> file.getFileName().toString()).filter(name -> name.endsWith("Test.java"))
                .forEach(name -> there.add(name.substring(0, name.length() - ".java".length())));
        }
        Set<String> named = new TreeSet<>();
        Matcher matcher = Pattern.compile("(?m)^\\| ([A-Za-z]+Test) \\|").matcher(readme);
        while (matcher.find()) {
            named.add(matcher.group(1));
        }
        holds("README.md names all tests, and no more: " + named + ", there are " + there, named.equals(there));
    }

    /** In a row of a table a name in `` behind that of a test is a method of that test. */
    private static void casesNamed(String readme) throws IOException {
        for (String line : readme.lines().filter(row -> row.startsWith("| ")).toList()) {
            String source = "";
            Matcher matcher = Pattern.compile("([A-Za-z]+Test)|`([a-z][A-Za-z]*)`").matcher(line);
            while (matcher.find()) {
                if (matcher.group(1) != null) {
                    Path file = TESTS.resolve(matcher.group(1) + ".java");
                    holds("there is " + file, Files.exists(file));
                    source = Files.exists(file) ? Files.readString(file, StandardCharsets.UTF_8) : "";
                } else if (!source.isEmpty()) {
                    holds(matcher.group(2) + " is in the test of its row: " + line,
                        source.contains(" void " + matcher.group(2) + "("));
                }
            }
        }
    }

    private static void filesNamed(String readme) {
        List<String> commands = blocks(readme, "sh");
        holds("README.md has commands", !commands.isEmpty());
        for (String command : commands) {
            for (String word : command.split("\\s+")) {
                if (word.startsWith("src/") || word.startsWith(".ci/")) {
                    Path named = Path.of(word.endsWith("/*.java") ? word.substring(0, word.length() - 7) : word);
                    holds("there is " + word, Files.exists(named));
                }
            }
        }
        for (String said : List.of(".ci/run", "../shared/tests")) {
            holds("README.md tells of " + said, readme.contains(said));
        }
    }

    private static void holds(String what, boolean is) {
        Check.due(what, is ? 1 : 0, 1);
    }
}
