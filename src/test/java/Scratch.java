import java.io.File;
import java.io.IOException;
import java.nio.file.Files;
import java.nio.file.Path;
import java.nio.file.StandardCopyOption;
import java.util.Comparator;
import java.util.List;
import java.util.concurrent.TimeUnit;
import java.util.stream.Stream;

/** A folder of its own, under build/, in which commands are run as README.md tells them. */
final class Scratch {
    private static final int LONGEST_SECONDS = 120;

    private final Path place;
    private String printed = "";

    Scratch(String name) throws IOException {
        place = Path.of("build/scratch", name);
        if (Files.exists(place)) {
            try (Stream<Path> old = Files.walk(place)) {
                for (Path path : old.sorted(Comparator.reverseOrder()).toList()) {
                    Files.delete(path);
                }
            }
        }
        Files.createDirectories(place);
    }

    /** Copies a file of the project to the same name there, and whether it can be run with it. */
    void copy(String name, String to) throws IOException {
        Files.createDirectories(place.resolve(to).getParent());
        Files.copy(Path.of(name), place.resolve(to), StandardCopyOption.COPY_ATTRIBUTES,
            StandardCopyOption.REPLACE_EXISTING);
    }

    void write(String name, String text) throws IOException {
        Files.createDirectories(place.resolve(name).getParent());
        Files.writeString(place.resolve(name), text);
    }

    /** Runs commands, one behind the other until one fails, in a folder below; answers the exit code. */
    int run(String folder, List<String> commands) throws IOException, InterruptedException {
        File out = place.resolve("printed").toFile();
        Process process = new ProcessBuilder("sh", "-e", "-c", String.join("\n", commands))
            .directory(place.resolve(folder).toFile()).redirectErrorStream(true).redirectOutput(out).start();
        if (!process.waitFor(LONGEST_SECONDS, TimeUnit.SECONDS)) {
            process.destroyForcibly();
            return -1;
        }
        printed = Files.readString(out.toPath());
        return process.exitValue();
    }

    /** What the latest run printed. */
    String printed() {
        return printed;
    }

    boolean has(String name) {
        return Files.exists(place.resolve(name));
    }
}
