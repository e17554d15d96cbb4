import java.io.IOException;
import java.nio.charset.StandardCharsets;
import java.nio.file.Files;
import java.nio.file.Path;
import java.nio.file.StandardCopyOption;
import java.util.ArrayList;
import java.util.Collections;
import java.util.List;
import java.util.stream.Collectors;
import java.util.stream.Stream;

/** A directory of its own, in which commands are run, so that a test leaves the project as it is. */
final class Place implements AutoCloseable {
    private final Path around = Files.createTempDirectory("place");
    /** Where the commands are run; what is put beside it, such as ../shared, is in a place of its own, too. */
    private final Path root;
    /** What the latest command printed, and what it complained of. */
    String printed = "";
    String complaints = "";

    Place() throws IOException {
        root = Files.createDirectory(around.resolve("project"));
    }

    void write(String name, String text) throws IOException {
        Path file = root.resolve(name).normalize();
        Files.createDirectories(file.getParent());
        // A copy may be one that can only be read.
        Files.deleteIfExists(file);
        Files.writeString(file, text);
    }

    /** Copies a file or a directory of the project, modes and all. */
    void copy(String name) throws IOException {
        for (Path one : under(Path.of(name))) {
            Path to = root.resolve(one.toString());
            Files.createDirectories(Files.isDirectory(one) ? to : to.getParent());
            if (!Files.isDirectory(one)) {
                Files.copy(one, to, StandardCopyOption.COPY_ATTRIBUTES);
            }
        }
    }

    /** Runs commands in this directory: the exit code of the first that failed, else 0. */
    int run(String commands) throws IOException, InterruptedException {
        ProcessBuilder shell = new ProcessBuilder("bash", "-e", "-c", commands);
        Path errors = around.resolve("complaints");
        shell.directory(root.toFile()).redirectError(errors.toFile());
        shell.environment().remove("SHARED");
        Process process = shell.start();
        process.getOutputStream().close();
        printed = new String(process.getInputStream().readAllBytes(), StandardCharsets.UTF_8);
        int code = process.waitFor();
        complaints = Files.readString(errors, StandardCharsets.ISO_8859_1);
        return code;
    }

    private static List<Path> under(Path path) throws IOException {
        try (Stream<Path> all = Files.walk(path)) {
            return all.collect(Collectors.toCollection(ArrayList::new));
        }
    }

    @Override
    public void close() throws IOException {
        List<Path> all = under(around);
        Collections.reverse(all);
        for (Path one : all) {
            Files.delete(one);
        }
    }
}
