import java.io.IOException;
import java.io.InputStream;
import java.nio.charset.StandardCharsets;
import java.nio.file.Files;
import java.nio.file.Path;
import java.util.Comparator;
import java.util.List;
import java.util.stream.Collectors;
import java.util.stream.Stream;

/** Runs commands as somebody does who follows the README, and clears away what they leave. */
final class Shell {
    private Shell() {
    }

    record Result(int exit, String output) {
    }

    /** What the commands make for themselves goes into a folder that is theirs. */
    static Result run(Path folder, Path temporary, String commands) throws IOException, InterruptedException {
        ProcessBuilder builder = new ProcessBuilder("sh", "-e", "-c", commands);
        builder.directory(folder.toFile()).redirectErrorStream(true);
        builder.environment().put("TMPDIR", temporary.toAbsolutePath().toString());
        Process process = builder.start();
        process.getOutputStream().close();
        try (InputStream output = process.getInputStream()) {
            String text = new String(output.readAllBytes(), StandardCharsets.UTF_8);
            return new Result(process.waitFor(), text);
        }
    }

    static void remove(Path folder) throws IOException {
        try (Stream<Path> all = Files.walk(folder)) {
            List<Path> deepestFirst = all.sorted(Comparator.reverseOrder()).collect(Collectors.toList());
            for (Path path : deepestFirst) {
                Files.delete(path);
            }
        }
    }
}
