import java.io.IOException;
import java.lang.reflect.Method;
import java.lang.reflect.Modifier;
import java.nio.file.Files;
import java.nio.file.Path;
import java.util.ArrayList;
import java.util.Arrays;
import java.util.List;
import java.util.TreeSet;
import java.util.regex.Matcher;
import java.util.regex.Pattern;
import java.util.stream.Stream;

/** What README.md tells of the calls is what they do; run in the project's folder, as .ci/run does. */
public final class ReadmeTest {
    private static final String NEW_OBJECT = "LevelTree x = new LevelTree();";
    private static final Pattern CALL = Pattern.compile("x\\.(\\w+)\\(([^)]*)\\); +// (throws \\w+|-?\\d+(?: \\* 4096 \\+ \\d+)?)(?::.*)?");
    private static final Pattern ROW = Pattern.compile("\\| `(\\w+)\\(([^)]*)\\)` \\|[^|]*\\|([^|]*)\\|");
    private static final Pattern EXCEPTION = Pattern.compile("`(\\w+Exception)`");
    private static final Due due = new Due("the README");

    public static void main(String[] args) throws IOException {
        List<String> lines = Files.readAllLines(Path.of("README.md"));
        due.test("README: each call of the example answers so", () -> theExample(lines));
        due.test("README: the table has each call of the face, with its exceptions in their order", () -> theTable(lines));
        due.test("README: each test is told of", () -> theTests(String.join("\n", lines)));
        due.end();
    }

    private static void theExample(List<String> lines) {
        int first = lines.indexOf("```java") + 1;
        int end = first + lines.subList(first, lines.size()).indexOf("```");
        due.same("its first line", lines.get(first), NEW_OBJECT);
        LevelTree x = new LevelTree();
        TreeSet<String> called = new TreeSet<>();
        for (String line : lines.subList(first + 1, end)) {
            Matcher call = CALL.matcher(line);
            if (!call.matches()) {
                due.same("a line", line, "a call and its answer");
                continue;
            }
            called.add(call.group(1));
            due.outcomeIs(x, outcomeOf(call.group(3)), call.group(1), numbersOf(call.group(2)));
        }
        due.same("what it calls", called.toString(), new TreeSet<>(names(face())).toString());
    }

    private static String outcomeOf(String told) {
        if (told.startsWith("throws ")) {
            String name = told.substring("throws ".length());
            return Stream.of(Due.ILLEGAL_ARGUMENT, Due.ILLEGAL_STATE, Due.NO_SUCH_ELEMENT)
                    .filter(exception -> exception.endsWith("." + name)).findFirst().orElse(told);
        }
        String[] numberAndTimes = told.split(" \\* 4096 \\+ ");
        if (numberAndTimes.length == 1) {
            return told;
        }
        return Integer.toString(Integer.parseInt(numberAndTimes[0]) * 4096 + Integer.parseInt(numberAndTimes[1]));
    }

    private static int[] numbersOf(String given) {
        return given.isEmpty() ? new int[0] : Arrays.stream(given.split(", ")).mapToInt(Integer::parseInt).toArray();
    }

    private static void theTable(List<String> lines) {
        List<String> told = new ArrayList<>();
        for (String line : lines) {
            Matcher row = ROW.matcher(line);
            if (row.matches()) {
                int given = row.group(2).isEmpty() ? 0 : row.group(2).split(", ").length;
                told.add(row.group(1) + " of " + given + " throws " + exceptionsIn(row.group(3)));
            }
        }
        List<String> want = new ArrayList<>();
        for (Method method : face()) {
            List<String> exceptions = Stream.of(method.getExceptionTypes()).map(Class::getSimpleName).toList();
            want.add(method.getName() + " of " + method.getParameterCount() + " throws " + exceptions);
        }
        due.same("the table", new TreeSet<>(told).toString(), new TreeSet<>(want).toString());
        due.same("its rows", Integer.toString(told.size()), Integer.toString(want.size()));
    }

    private static List<String> exceptionsIn(String cell) {
        return EXCEPTION.matcher(cell).results().map(found -> found.group(1)).toList();
    }

    private static void theTests(String readme) {
        try (Stream<Path> files = Files.list(Path.of("src/test/java"))) {
            for (Path file : files.toList()) {
                String name = file.getFileName().toString().replace(".java", "");
                due.same("what is told of " + name, readme.contains("`" + name + "`") ? "something" : "nothing", "something");
            }
        } catch (IOException e) {
            due.same("the folder of the tests", e.toString(), "can be read");
        }
        due.same("how they are run", readme.contains("    .ci/run\n") ? ".ci/run" : "nothing", ".ci/run");
    }

    private static List<Method> face() {
        return Stream.of(LevelTree.class.getDeclaredMethods()).filter(method -> Modifier.isPublic(method.getModifiers())).toList();
    }

    private static List<String> names(List<Method> methods) {
        return methods.stream().map(Method::getName).toList();
    }
}
