import java.io.IOException;
import java.nio.charset.StandardCharsets;
import java.nio.file.Files;
import java.nio.file.Path;
import java.nio.file.StandardCopyOption;
import java.util.Comparator;
import java.util.List;
import java.util.concurrent.TimeUnit;
import java.util.stream.Collectors;
import java.util.stream.Stream;

/** A small project of its own in build/folders, with a folder "shared" beside it, in which commands can be run. */
final class Folder {
    private final Path top;
    private final Path project;
    private String said = "";

    Folder(String name) throws IOException {
        top = Path.of("build/folders").resolve(name).toAbsolutePath();
        project = top.resolve("main");
        if (Files.exists(top)) {
            for (Path path : within(top, Comparator.reverseOrder())) {
                Files.delete(path);
            }
        }
        Files.createDirectories(project);
        Files.createDirectories(top.resolve("shared/tests"));
    }

    private static List<Path> within(Path path, Comparator<Path> order) throws IOException {
        try (Stream<Path> paths = Files.walk(path)) {
            return paths.sorted(order).collect(Collectors.toList());
        }
    }

    static List<Path> files(String folder) throws IOException {
        List<Path> files = within(Path.of(folder), Comparator.naturalOrder());
        return files.stream().filter(Files::isRegularFile).collect(Collectors.toList());
    }

    /** A file of this project, or of ../shared, at the same place. */
    Folder copy(Path file) throws IOException {
        Path to = project.resolve(file).normalize();
        Files.createDirectories(to.getParent());
        Files.copy(file, to, StandardCopyOption.COPY_ATTRIBUTES);
        return this;
    }

    Folder write(String file, String text) throws IOException {
        Path to = project.resolve(file).normalize();
        Files.createDirectories(to.getParent());
        Files.writeString(to, text, StandardCharsets.UTF_8);
        return this;
    }

    /** The command's end: 0 if all went well. */
    int run(String command) throws IOException, InterruptedException {
        Path output = top.resolve("output");
        Process process = new ProcessBuilder("sh", "-c", command).directory(project.toFile())
                .redirectErrorStream(true).redirectOutput(output.toFile()).start();
        process.getOutputStream().close();
        if (!process.waitFor(300, TimeUnit.SECONDS)) {
            process.destroyForcibly();
            return -1;
        }
        said = Files.readString(output, StandardCharsets.ISO_8859_1);
        return process.exitValue();
    }

    String path(String folder) {
        return project.resolve(folder).toString();
    }

    /** What the latest command printed. */
    String said() {
        return said;
    }
}
