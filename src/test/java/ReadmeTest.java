import java.io.IOException;
import java.lang.reflect.InvocationTargetException;
import java.lang.reflect.Method;
import java.lang.reflect.Modifier;
import java.nio.file.Files;
import java.nio.file.Path;
import java.nio.file.attribute.PosixFilePermission;
import java.util.ArrayList;
import java.util.Arrays;
import java.util.List;
import java.util.Map;
import java.util.Set;
import java.util.TreeMap;
import java.util.TreeSet;
import java.util.regex.MatchResult;
import java.util.regex.Matcher;
import java.util.regex.Pattern;
import java.util.stream.Collectors;
import java.util.stream.Stream;

/** README.md tells the truth: its example, its calls, its commands, its tests; it runs in the project's folder. */
final class ReadmeTest {
    private static final Path PROJECT = Path.of("").toAbsolutePath();
    private static final Path EXAMPLE = Path.of("src/example/java/Example.java");
    private static final String ALL_TESTS = ".ci/run\n";
    private static final Pattern CALL = Pattern.compile("(?m)^\\| `(\\w+)\\((.*?)\\)` \\| `(\\w+)`: (.*)\\|(.*)\\|$");

    public static void main(String[] args) throws IOException, InterruptedException {
        String readme = Files.readString(Path.of("README.md"));
        exampleIsTheFile(readme);
        commandsWork(readme);
        callsAreTheFace(readme);
        refusalsAreTold(readme);
        testsAreThose(readme);
        Check.finish();
    }

    /** What stands in the README between three backquotes and the name of a language, and three again. */
    private static List<String> blocks(String readme, String language) {
        Matcher block = Pattern.compile("(?ms)^```" + language + "\n(.*?)^```$").matcher(readme);
        return block.results().map(found -> found.group(1)).collect(Collectors.toList());
    }

    private static void exampleIsTheFile(String readme) throws IOException {
        String example = Files.readString(EXAMPLE);
        Check.equal("the README's example", List.of(example), () -> blocks(readme, "java"));
    }

    /** The commands one after another as they stand, but for the one of which this test is a part. */
    private static void commandsWork(String readme) throws IOException, InterruptedException {
        List<String> commands = new ArrayList<>(blocks(readme, "sh"));
        Check.equal("the README tells how to run all tests", true, () -> commands.remove(ALL_TESTS));
        Set<PosixFilePermission> rights = Files.getPosixFilePermissions(Path.of(ALL_TESTS.trim()));
        Check.equal(".ci/run is executable", true, () -> rights.contains(PosixFilePermission.OWNER_EXECUTE));
        Check.equal("the README tells of other commands", true, () -> commands.size() >= 2);
        Path temporary = Files.createTempDirectory("readme");
        Shell.Result result = Shell.run(PROJECT, temporary, String.join("", commands));
        Shell.remove(temporary);
        Check.equal("the commands' exit code, they printed: " + result.output(), 0, result::exit);
        for (String printed : blocks(readme, "text")) {
            Check.equal("what the example prints", true, () -> result.output().startsWith(printed));
        }
        Check.equal("texts that are printed", 1, () -> blocks(readme, "text").size());
    }

    private static Map<String, MatchResult> callsOf(String readme) {
        Map<String, MatchResult> calls = new TreeMap<>();
        CALL.matcher(readme).results().forEach(row -> calls.put(row.group(1), row));
        return calls;
    }

    private static List<Method> face() {
        return Arrays.stream(RecurrenceDesk.class.getDeclaredMethods())
                .filter(method -> Modifier.isPublic(method.getModifiers())).collect(Collectors.toList());
    }

    /** Each call has a row with its arguments, what it answers, and what it throws, in the order that it declares. */
    private static void callsAreTheFace(String readme) {
        Map<String, MatchResult> calls = callsOf(readme);
        Set<String> names = face().stream().map(Method::getName).collect(Collectors.toCollection(TreeSet::new));
        Check.equal("the README's calls", names, calls::keySet);
        for (Method method : face()) {
            MatchResult row = calls.get(method.getName());
            if (row != null) {
                int arguments = row.group(2).isEmpty() ? 0 : row.group(2).split(", ").length;
                Check.equal(method + " has arguments", method.getParameterCount(), () -> arguments);
                Check.equal(method + " answers", method.getReturnType().getName(), () -> row.group(3));
                List<String> thrown = Arrays.stream(method.getExceptionTypes()).map(Class::getSimpleName)
                        .collect(Collectors.toList());
                Check.equal(method + " throws", thrown, () -> exceptionsIn(row.group(5)));
            }
        }
    }

    private static List<String> exceptionsIn(String cell) {
        return Pattern.compile("`(\\w+Exception)`").matcher(cell).results()
                .map(found -> found.group(1)).collect(Collectors.toList());
    }

    /** With arguments far out of all bounds each call does what its row says, and BAD stands in no other row. */
    private static void refusalsAreTold(String readme) {
        Check.equal("the README tells what BAD is", true,
                () -> readme.contains("`RecurrenceDesk.BAD` is " + RecurrenceDesk.BAD));
        for (Method method : face()) {
            MatchResult row = callsOf(readme).get(method.getName());
            if (row != null) {
                String got = refusalOf(method);
                String want = row.group(5).trim();
                Check.equal(method + " refuses: " + want, true, () -> want.startsWith(got));
            }
        }
    }

    private static String refusalOf(Method method) {
        Object[] arguments = Arrays.stream(method.getParameterTypes())
                .map(type -> type == long.class ? (Object) Long.MIN_VALUE : (Object) Integer.MIN_VALUE).toArray();
        try {
            Object answer = method.invoke(new RecurrenceDesk(), arguments);
            return answer.equals(RecurrenceDesk.BAD) ? "`BAD`" : "nothing";
        } catch (InvocationTargetException e) {
            return "`" + e.getCause().getClass().getSimpleName() + "`";
        } catch (IllegalAccessException e) {
            return "no access";
        }
    }

    private static void testsAreThose(String readme) throws IOException {
        Set<String> told = Pattern.compile("(?m)^\\| `(\\w+Test)` \\|").matcher(readme).results()
                .map(row -> row.group(1)).collect(Collectors.toCollection(TreeSet::new));
        try (Stream<Path> files = Files.list(Path.of("src/test/java"))) {
            Set<String> there = files.map(file -> file.getFileName().toString())
                    .filter(name -> name.endsWith("Test.java")).map(name -> name.replace(".java", ""))
                    .collect(Collectors.toCollection(TreeSet::new));
            Check.equal("the README's tests", there, () -> told);
        }
    }
}
