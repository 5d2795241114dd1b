import java.io.IOException;
import java.nio.file.Files;
import java.nio.file.Path;
import java.util.HashMap;
import java.util.Map;
import java.util.stream.Stream;

/** The script .ci/run, in small projects that are made for it; it runs in the project's folder. */
final class CiTest {
    private static final String PROGRAM = "src/main/java/RecurrenceDesk.java";
    private static final String ONE = "src/test/java/OneTest.java";
    private static final String TWO = "src/test/java/TwoTest.java";
    private static final String SHARED_ONE = "../shared/tests/SharedOne.java";
    private static final String SHARED_TWO = "../shared/tests/SharedTwo.java";

    private static Path room;

    public static void main(String[] args) throws IOException, InterruptedException {
        room = Files.createTempDirectory("ci");
        try {
            passesWhenAllPass();
            failsWhenOneFails();
            failsWithoutSharedTests();
        } finally {
            Shell.remove(room);
        }
        Check.finish();
    }

    private static Map<String, String> files(int one, int two, int sharedOne, int sharedTwo) {
        return Map.of(PROGRAM, "public final class RecurrenceDesk { }",
                ONE, mainOf("OneTest", one), TWO, mainOf("TwoTest", two),
                SHARED_ONE, mainOf("SharedOne", sharedOne), SHARED_TWO, mainOf("SharedTwo", sharedTwo));
    }

    /** A test that ends with an exit code; with the code -1 it can't be compiled. */
    private static String mainOf(String name, int exit) {
        String body = exit < 0 ? "no Java" : "if (" + exit + " != 0) { System.exit(" + exit + "); }";
        return "public final class " + name + " { public static void main(String[] args) {"
                + " new RecurrenceDesk(); System.out.println(\"ran " + name + "\"); " + body + " } }";
    }

    private static Shell.Result runOf(Map<String, String> files) throws IOException, InterruptedException {
        Path project = Files.createTempDirectory(room, "place").resolve("project");
        for (Map.Entry<String, String> file : files.entrySet()) {
            Path path = project.resolve(file.getKey()).normalize();
            Files.createDirectories(path.getParent());
            Files.writeString(path, file.getValue());
        }
        Files.createDirectories(project.resolve(".ci"));
        Files.copy(Path.of(".ci/run"), project.resolve(".ci/run"));
        Path temporary = Files.createTempDirectory(room, "temporary");
        Shell.Result result = Shell.run(project, temporary, "sh .ci/run");
        try (Stream<Path> left = Files.list(temporary)) {
            Check.equal("what .ci/run left behind", 0L, left::count);
        }
        return result;
    }

    private static void passesWhenAllPass() throws IOException, InterruptedException {
        Shell.Result result = runOf(files(0, 0, 0, 0));
        Check.equal("all pass: " + result.output(), 0, result::exit);
        for (String name : new String[] {"OneTest", "TwoTest", "SharedOne", "SharedTwo"}) {
            Check.equal(name + " ran", true, () -> result.output().contains("ran " + name + "\n"));
        }
    }

    /** Each of the tests alone, also one that can't be compiled; the others still run. */
    private static void failsWhenOneFails() throws IOException, InterruptedException {
        refuses(files(1, 0, 0, 0), ONE, "TwoTest");
        refuses(files(0, 3, 0, 0), TWO, "SharedTwo");
        refuses(files(0, 0, 1, 0), SHARED_ONE, "SharedTwo");
        refuses(files(0, 0, 0, 1), SHARED_TWO, "SharedOne");
        refuses(files(0, -1, 0, 0), "the project's tests do not compile", "SharedOne");
        refuses(files(0, 0, -1, 0), SHARED_ONE + " does not compile", "SharedTwo");
    }

    private static void refuses(Map<String, String> files, String told, String other)
            throws IOException, InterruptedException {
        Shell.Result result = runOf(files);
        Check.equal(told + " fails", true, () -> result.exit() != 0);
        Check.equal(told + " is told", true, () -> result.output().contains("FAILED: " + told + "\n"));
        Check.equal(other + " ran", true, () -> result.output().contains("passed: " + other + "\n"));
    }

    private static void failsWithoutSharedTests() throws IOException, InterruptedException {
        Map<String, String> files = new HashMap<>(files(0, 0, 0, 0));
        files.remove(SHARED_ONE);
        files.remove(SHARED_TWO);
        Shell.Result result = runOf(files);
        Check.equal("no shared tests: " + result.output(), true, () -> result.exit() != 0);
    }
}
