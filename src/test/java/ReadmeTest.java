import java.io.IOException;
import java.lang.ProcessBuilder.Redirect;
import java.lang.reflect.Method;
import java.lang.reflect.Modifier;
import java.nio.file.Files;
import java.nio.file.Path;
import java.util.ArrayList;
import java.util.Comparator;
import java.util.List;
import java.util.regex.Matcher;
import java.util.regex.Pattern;
import java.util.stream.Stream;

/**
 * README.md: its example, compiled and run by its own commands, gives the answers that stand behind
 * the calls; its constants have the values of its table; every call of the class is told.
 */
public final class ReadmeTest {
    private static final Path PROGRAM = Path.of("src", "main", "java", "LeaseHouse.java");
    private static final Pattern CLASS_NAME = Pattern.compile("public final class (\\w+) \\{");
    private static final Pattern NAMED_ANSWER = Pattern.compile(" *System\\.out\\.println\\((.*)\\); *// ([^:]+): .*");
    private static final Pattern CONSTANT = Pattern.compile("\\| `([A-Z]+)` *\\| *(-?\\d+) *\\|.*");
    private static final Check check = new Check();

    public static void main(String[] args) throws Exception {
        List<String> readme = Files.readAllLines(Path.of("README.md"));
        theExampleGivesTheAnswersThatItNames(readme);
        theConstantsHaveTheValuesOfTheTable(readme);
        everyCallIsTold(readme);
        check.end();
    }

    private static void theExampleGivesTheAnswersThatItNames(List<String> readme) throws Exception {
        List<String> example = block(readme, "java");
        List<String> told = tellExample(example, block(readme, "sh"));
        int answers = 0;
        for (String line : example) {
            if (line.contains("println")) {
                Matcher named = NAMED_ANSWER.matcher(line);
                String got = answers < told.size() ? told.get(answers) : "missing";
                String call = named.matches() ? named.group(1) : line.trim();
                check.due("the answer of " + call, got, named.matches() ? named.group(2) : "not named");
                answers++;
            }
        }
        check.due("lines that the example tells", told.size(), answers);
        check.due("the example names answers", answers > 0, true);
        check.due("every call of the example is told", timesIn(example, "house."), answers);
    }

    private static void theConstantsHaveTheValuesOfTheTable(List<String> readme) throws ReflectiveOperationException {
        int constants = 0;
        for (String line : readme) {
            Matcher constant = CONSTANT.matcher(line);
            if (constant.matches()) {
                int value = LeaseHouse.class.getField(constant.group(1)).getInt(null);
                check.due("the value of " + constant.group(1), constant.group(2), String.valueOf(value));
                constants++;
            }
        }
        check.due("constants in the table", constants, LeaseHouse.class.getFields().length);
    }

    private static void everyCallIsTold(List<String> readme) {
        for (Method method : LeaseHouse.class.getDeclaredMethods()) {
            if (Modifier.isPublic(method.getModifiers())) {
                check.due("rows that tell " + method.getName(), timesIn(readme, "| `" + method.getName() + "("), 1);
            }
        }
    }

    /** What the example prints when the commands are done in a directory laid out like the project's. */
    private static List<String> tellExample(List<String> example, List<String> commands) throws Exception {
        Path place = Files.createTempDirectory("readme");
        try {
            Files.createDirectories(place.resolve(PROGRAM).getParent());
            Files.copy(PROGRAM, place.resolve(PROGRAM));
            Files.write(place.resolve(classNameIn(example) + ".java"), example);
            List<String> told = new ArrayList<>();
            for (String command : commands) {
                told.addAll(run(command, place));
            }
            return told;
        } finally {
            remove(place);
        }
    }

    private static List<String> run(String command, Path place) throws IOException, InterruptedException {
        Path out = place.resolve("told");
        int code = new ProcessBuilder(command.split(" ")).directory(place.toFile())
                .redirectError(Redirect.INHERIT).redirectOutput(out.toFile()).start().waitFor();
        check.due("exit code of '" + command + "'", code, 0);
        return Files.readAllLines(out);
    }

    private static void remove(Path place) throws IOException {
        try (Stream<Path> inside = Files.walk(place)) {
            // What lies deeper goes first: only an empty directory can be removed.
            for (Path path : inside.sorted(Comparator.reverseOrder()).toList()) {
                Files.delete(path);
            }
        }
    }

    private static String classNameIn(List<String> example) {
        Matcher found = CLASS_NAME.matcher(String.join("\n", example));
        return found.find() ? found.group(1) : "NoClass";
    }

    private static List<String> block(List<String> readme, String language) {
        int begin = readme.indexOf("```" + language);
        check.due("there is a block of " + language, begin >= 0, true);
        List<String> rest = readme.subList(begin + 1, readme.size());
        return rest.subList(0, rest.indexOf("```"));
    }

    private static int timesIn(List<String> lines, String part) {
        return String.join("\n", lines).split(Pattern.quote(part), -1).length - 1;
    }
}
