import java.io.IOException;
import java.nio.file.Files;
import java.nio.file.Path;
import java.util.Comparator;
import java.util.List;
import java.util.stream.Stream;

/** Runs commands as one types them, in a folder of its own that is gone at the end. */
final class Shell implements AutoCloseable {
    final Path folder = Files.createTempDirectory("menders");

    Shell() throws IOException {
    }

    /** The exit code that a command ended with, what it printed, and, apart from that, what it said of faults. */
    record Outcome(int code, String printed, String said) {
        List<String> lines() {
            return printed.lines().toList();
        }

        @Override
        public String toString() {
            return code + ":\n" + printed + said;
        }
    }

    Outcome run(String command) throws IOException, InterruptedException {
        Path said = folder.resolve("said");
        Process process = new ProcessBuilder("bash", "-c", command).directory(folder.toFile()).redirectError(said.toFile()).start();
        process.getOutputStream().close();
        String printed = new String(process.getInputStream().readAllBytes());
        return new Outcome(process.waitFor(), printed, Files.readString(said));
    }

    void write(String file, String... lines) throws IOException {
        Path path = folder.resolve(file);
        Files.createDirectories(path.getParent());
        Files.write(path, List.of(lines));
    }

    @Override
    public void close() throws IOException {
        try (Stream<Path> all = Files.walk(folder)) {
            for (Path path : all.sorted(Comparator.reverseOrder()).toList()) {
                Files.delete(path);
            }
        }
    }
}
