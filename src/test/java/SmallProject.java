import java.io.IOException;
import java.nio.charset.StandardCharsets;
import java.nio.file.Files;
import java.nio.file.Path;
import java.util.ArrayList;
import java.util.Comparator;
import java.util.List;
import java.util.stream.Stream;

/** A project laid out as this one in a folder of its own, so that commands can be run without touching the real one. */
final class SmallProject implements AutoCloseable {
    private final Path real;
    private final Path folder;
    private final Path root;
    private String printed = "";

    SmallProject(Path real) throws IOException {
        this.real = real;
        folder = Files.createTempDirectory("hung");
        root = Files.createDirectories(folder.resolve("main"));
        Files.createDirectories(folder.resolve("shared/tests"));
    }

    /** Takes a file, or a folder with all in it, over from the real project. */
    void take(String name) throws IOException {
        for (Path from : allIn(real.resolve(name))) {
            Path to = root.resolve(real.relativize(from).toString());
            Files.createDirectories(to.getParent());
            if (!Files.isDirectory(from)) {
                Files.copy(from, to);
                to.toFile().setExecutable(Files.isExecutable(from));
            }
        }
    }

    void write(String name, String text) throws IOException {
        Path file = root.resolve(name).normalize();
        Files.createDirectories(file.getParent());
        Files.writeString(file, text);
    }

    /** Answers the exit code; what was printed can be asked for then. */
    int run(String command) throws IOException, InterruptedException {
        Process process = new ProcessBuilder("sh", "-c", command).directory(root.toFile()).redirectErrorStream(true).start();
        process.getOutputStream().close();
        printed = new String(process.getInputStream().readAllBytes(), StandardCharsets.UTF_8);
        return process.waitFor();
    }

    String printed() {
        return printed;
    }

    @Override
    public void close() throws IOException {
        List<Path> deepestFirst = allIn(folder);
        deepestFirst.sort(Comparator.reverseOrder());
        for (Path path : deepestFirst) {
            Files.delete(path);
        }
    }

    private static List<Path> allIn(Path top) throws IOException {
        try (Stream<Path> paths = Files.walk(top)) {
            return new ArrayList<>(paths.toList());
        }
    }
}
