import java.io.IOException;
import java.lang.reflect.Method;
import java.lang.reflect.Modifier;
import java.nio.file.Files;
import java.nio.file.Path;
import java.nio.file.StandardCopyOption;
import java.util.ArrayList;
import java.util.Arrays;
import java.util.List;
import java.util.Map;
import java.util.TreeMap;
import java.util.TreeSet;
import java.util.stream.Stream;

/** What README.md shows is so: its example, its table of calls, its list of tests. */
public final class ReadmeTest {
    private static final Due DUE = new Due();
    private static final Path PLACE = Path.of("build/readme");
    private static final Path CLASS = Path.of("src/main/java/TrickleMesh.java");
    private static List<String> readme;

    public static void main(String[] args) throws Exception {
        readme = Files.readAllLines(Path.of("README.md"));
        theExampleAnswersWhatIsSaid();
        theExampleUsesTheWholeFace();
        theTableTellsWhatWrongNumbersAnswer();
        theTestsAreListed();
        theTestsAreRunAsIsSaid();
        DUE.end("ReadmeTest");
    }

    /** The example and the class stand alone in a place, and what README.md says is typed there. */
    private static void theExampleAnswersWhatIsSaid() throws IOException, InterruptedException {
        DUE.sentence("README.md, 'Use'");
        Files.createDirectories(PLACE);
        Files.write(PLACE.resolve("Example.java"), block("## Use", "java"));
        Files.copy(CLASS, PLACE.resolve(CLASS.getFileName()), StandardCopyOption.REPLACE_EXISTING);
        List<String> typed = block("## Use", "sh");
        Path printed = PLACE.resolve("printed");
        Process shell = new ProcessBuilder("sh", "-e", "-c", String.join("\n", typed))
            .directory(PLACE.toFile()).redirectErrorStream(true).redirectOutput(printed.toFile()).start();
        DUE.is("exit code of " + typed, shell.waitFor(), 0);
        List<String> got = Files.readAllLines(printed);
        List<String> want = block("## Use", "text");
        DUE.is("lines printed", got.size(), want.size());
        for (int i = 0; i < want.size(); i++) {
            String line = i < got.size() ? got.get(i) : "nothing";
            DUE.is("line " + (i + 1) + ", '" + line + "', is '" + want.get(i) + "'",
                line.equals(want.get(i)), true);
        }
    }

    private static void theExampleUsesTheWholeFace() {
        DUE.sentence("README.md, 'Use'");
        String example = String.join("\n", block("## Use", "java"));
        for (Method method : face()) {
            DUE.is("the example calls " + method.getName(), example.contains("mesh." + method.getName() + "("), true);
        }
    }

    private static void theTableTellsWhatWrongNumbersAnswer() throws ReflectiveOperationException {
        DUE.sentence("README.md, 'The calls'");
        Map<String, String> told = wrongNumbersOfTheTable();
        DUE.is("calls in the table", told.size(), face().size() + 1);
        for (Method method : face()) {
            DUE.is("told: " + method.getName(), told.containsKey(method.getName()), true);
            if (method.getParameterCount() > 0 && told.containsKey(method.getName())) {
                Object[] numbers = new Object[method.getParameterCount()];
                Arrays.fill(numbers, -5);
                Object answer = method.invoke(new TrickleMesh(1, 30, 2), numbers);
                String cell = told.get(method.getName());
                DUE.is(method.getName() + " of -5 answers " + answer + ", the table says " + cell,
                    cell.startsWith("`" + answer + "`"), true);
            }
        }
    }

    /** The last cell of each row of the table, by the name of its call. */
    private static Map<String, String> wrongNumbersOfTheTable() {
        Map<String, String> told = new TreeMap<>();
        for (String line : readme) {
            String[] cells = line.split("\\|", -1);
            if (cells.length == 6 && cells[1].startsWith(" `")) {
                String call = cells[1].trim().substring(1);
                told.put(call.substring(0, call.indexOf('(')), cells[4].trim().replace("BAD", "" + TrickleMesh.BAD));
            }
        }
        return told;
    }

    private static void theTestsAreListed() throws IOException {
        DUE.sentence("README.md, 'Tests'");
        TreeSet<String> listed = new TreeSet<>();
        for (String line : readme) {
            if (line.startsWith("- `") && line.contains("Test`:")) {
                listed.add(line.substring(3, line.indexOf("`:")));
            }
        }
        TreeSet<String> there = new TreeSet<>();
        try (Stream<Path> files = Files.list(Path.of("src/test/java"))) {
            files.map(file -> file.getFileName().toString()).filter(name -> name.endsWith("Test.java"))
                .forEach(name -> there.add(name.substring(0, name.length() - ".java".length())));
        }
        DUE.is("listed are " + listed + ", there are " + there, listed.equals(there), true);
    }

    private static void theTestsAreRunAsIsSaid() {
        DUE.sentence("README.md, 'Tests'");
        List<String> typed = block("## Tests", "sh");
        DUE.is("typed is " + typed, typed.equals(List.of(".ci/run")), true);
        DUE.is(".ci/run can be run", Files.isExecutable(Path.of(".ci/run")), true);
    }

    private static List<Method> face() {
        List<Method> face = new ArrayList<>();
        for (Method method : TrickleMesh.class.getDeclaredMethods()) {
            if (Modifier.isPublic(method.getModifiers())) {
                face.add(method);
            }
        }
        return face;
    }

    /** The lines of the first block of that language under a heading. */
    private static List<String> block(String heading, String language) {
        List<String> lines = new ArrayList<>();
        boolean under = false;
        boolean inside = false;
        for (String line : readme) {
            if (inside && line.equals("```")) {
                return lines;
            }
            if (inside) {
                lines.add(line);
            }
            under = under || line.equals(heading);
            inside = inside || under && line.equals("```" + language);
        }
        DUE.is("a block of " + language + " under " + heading, inside, true);
        return lines;
    }
}
