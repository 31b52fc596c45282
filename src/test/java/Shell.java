import java.io.IOException;
import java.nio.file.Files;
import java.nio.file.Path;
import java.util.Comparator;
import java.util.List;
import java.util.stream.Stream;

/** Runs commands as one types them, in a folder of its own that is gone at the end. */
final class Shell implements AutoCloseable {
    final Path folder = Files.createTempDirectory("menders");

    Shell() throws IOException {
    }

    /** What a command printed, and the exit code that it ended with. */
    record Outcome(int code, String printed) {
        List<String> lines() {
            return printed.lines().toList();
        }
    }

    Outcome run(String command) throws IOException, InterruptedException {
        Process process = new ProcessBuilder("bash", "-c", command).directory(folder.toFile()).redirectErrorStream(true).start();
        process.getOutputStream().close();
        String printed = new String(process.getInputStream().readAllBytes());
        return new Outcome(process.waitFor(), printed);
    }

    void write(String file, String... lines) throws IOException {
        Path path = folder.resolve(file);
        Files.createDirectories(path.getParent());
        Files.write(path, List.of(lines));
    }

    @Override
    public void close() throws IOException {
        try (Stream<Path> all = Files.walk(folder)) {
            for (Path path : all.sorted(Comparator.reverseOrder()).toList()) {
                Files.delete(path);
            }
        }
    }
}
