import java.io.IOException;
import java.nio.file.Files;
import java.nio.file.Path;
import java.util.ArrayList;
import java.util.List;
import java.util.TreeSet;
import java.util.regex.Matcher;
import java.util.regex.Pattern;
import java.util.stream.Stream;

/**
 * README.md keeps what it says: its example prints what stands beside its calls, its tables tell each call of
 * the class, and its list names each test. It is run in the directory of the project.
 */
public final class ReadmeTest {
    private static final Check check = new Check("readme");
    private static final Path TESTS = Path.of("src/test/java");
    private static final String MAIN = "src/main/java/HandoverDeck.java";
    private static final Pattern FACE = Pattern.compile("public \\w+ (\\w+)\\(([^)]*)\\)([^{]*)\\{");
    private static final Pattern ROW = Pattern.compile("\\| `(\\w+\\([^)]*\\))` \\| (.+) \\| (.+) \\|");
    private static final Pattern THROWN = Pattern.compile("\\w+Exception");

    public static void main(String[] args) throws IOException, InterruptedException {
        List<String> readme = Files.readAllLines(Path.of("README.md"));
        example(readme);
        tables(readme);
        listOfTests(String.join("\n", readme));
        check.end();
    }

    private static void example(List<String> readme) throws IOException, InterruptedException {
        List<String> commands = block(readme, "sh");
        List<String> program = block(readme, "java");
        List<String> due = answersBeside(program);
        check.isTrue("the example has many answers", due.size() >= 20);
        check.same("what the example prints", due, printed(commands, program));
        check.same("what the document asks for", due, printed(onModel(commands), onModel(program)));
    }

    /** The plain model of the document takes the place of the class. */
    private static List<String> onModel(List<String> lines) {
        List<String> changed = new ArrayList<>();
        for (String line : lines) {
            changed.add(line.replace(MAIN, "DeckModel.java").replace("HandoverDeck", "DeckModel"));
        }
        return changed;
    }

    private static List<String> block(List<String> readme, String language) {
        int from = readme.indexOf("```" + language) + 1;
        check.isTrue("there is a block of " + language, from > 0);
        int to = from;
        while (to < readme.size() && !readme.get(to).equals("```")) {
            to++;
        }
        return readme.subList(from, to);
    }

    /** Beside a call, its answer stands behind the slashes, alone or with a colon and what it means. */
    private static List<String> answersBeside(List<String> program) {
        List<String> answers = new ArrayList<>();
        for (String line : program) {
            int beside = line.indexOf("// ");
            if (beside >= 0) {
                answers.add(line.substring(beside + 3).split(":")[0]);
            }
        }
        return answers;
    }

    /** What the commands print in a directory that holds the program and the classes that it may use. */
    private static List<String> printed(List<String> commands, List<String> program)
            throws IOException, InterruptedException {
        Path place = Files.createTempDirectory("readme");
        try {
            Files.createDirectories(place.resolve(MAIN).getParent());
            Files.copy(Path.of(MAIN), place.resolve(MAIN));
            Files.copy(TESTS.resolve("DeckModel.java"), place.resolve("DeckModel.java"));
            Files.write(place.resolve("Example.java"), program);
            List<String> lines = new ArrayList<>();
            for (String command : commands) {
                lines.addAll(run(place, command));
            }
            return lines;
        } finally {
            delete(place);
        }
    }

    private static List<String> run(Path place, String command) throws IOException, InterruptedException {
        ProcessBuilder builder = new ProcessBuilder(command.split(" "));
        Process process = builder.directory(place.toFile()).redirectErrorStream(true).start();
        String text = new String(process.getInputStream().readAllBytes());
        check.same("how it ends: " + command, 0, process.waitFor());
        return text.lines().toList();
    }

    private static void delete(Path place) throws IOException {
        List<Path> paths;
        try (Stream<Path> walk = Files.walk(place)) {
            paths = walk.toList();
        }
        for (int i = paths.size() - 1; i >= 0; i--) {
            Files.delete(paths.get(i));
        }
    }

    /** Each call stands in one row, with the names of its arguments and its exceptions in their order. */
    private static void tables(List<String> readme) throws IOException {
        TreeSet<String> due = new TreeSet<>();
        Matcher member = FACE.matcher(Files.readString(Path.of(MAIN)));
        while (member.find()) {
            String names = member.group(2).replaceAll("\\w+ (\\w+)", "$1");
            due.add(member.group(1) + "(" + names + ") " + thrownIn(member.group(3)));
        }
        List<String> rows = new ArrayList<>();
        for (String line : readme) {
            Matcher row = ROW.matcher(line);
            if (row.matches()) {
                rows.add(row.group(1) + " " + thrownIn(row.group(3)));
            }
        }
        check.same("calls of the class", 39, due.size());
        check.same("rows", 39, rows.size());
        check.same("calls with what they throw", due, new TreeSet<>(rows));
    }

    private static List<String> thrownIn(String text) {
        List<String> names = new ArrayList<>();
        Matcher thrown = THROWN.matcher(text);
        while (thrown.find()) {
            names.add(thrown.group());
        }
        return names;
    }

    private static void listOfTests(String readme) throws IOException {
        try (Stream<Path> files = Files.list(TESTS)) {
            for (Path file : files.toList()) {
                String name = file.getFileName().toString().replace(".java", "");
                check.isTrue("README.md names " + name, readme.contains("`" + name + "`"));
            }
        }
    }
}
