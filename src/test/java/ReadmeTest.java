import java.io.File;
import java.io.IOException;
import java.io.UncheckedIOException;
import java.nio.file.Files;
import java.nio.file.Path;
import java.util.Comparator;
import java.util.List;
import java.util.regex.Pattern;
import java.util.stream.Stream;

/**
 * What README.md shows is so: its commands are run in a copy of the project, and the answers of its
 * example are those that stand behind the calls. Wants the paths of the program and of the document.
 */
final class ReadmeTest {
    private static final Pattern ANSWER = Pattern.compile("(?m)println\\(.*\\); // (\\S+?)(?=:|$)");

    public static void main(String[] args) throws Exception {
        Path program = Path.of(args[0]).toRealPath();
        Path root = program.resolve("../../../..").normalize();
        Path work = Files.createTempDirectory("readme");
        try {
            Path project = work.resolve("project");
            copy(root.resolve("src"), project.resolve("src"));
            Files.createSymbolicLink(work.resolve("shared"), Path.of(args[1]).toRealPath().getParent());
            tryAll(Files.readString(root.resolve("README.md")), root, project);
        } finally {
            remove(work);
        }
        Check.end("ReadmeTest");
    }

    private static void tryAll(String readme, Path root, Path project) throws Exception {
        List<String> examples = blocks(readme, "java");
        List<String> commands = blocks(readme, "sh");
        Check.due("examples", examples.size(), 1);
        Check.due("places with commands", commands.size(), 4);
        Files.writeString(project.resolve("Example.java"), examples.get(0));
        for (int i = 0; i < commands.size(); i++) {
            // this test is itself run by .ci/run
            if (commands.get(i).equals(".ci/run\n")) {
                Check.same(".ci/run can be run", Files.isExecutable(root.resolve(".ci/run")), true);
                continue;
            }
            String printed = run(commands.get(i), project);
            if (i == 0) {
                Check.same("what the example prints", printed, answers(examples.get(0)));
            }
        }
    }

    private static List<String> blocks(String readme, String language) {
        return Pattern.compile("(?ms)^```" + language + "\n(.*?)^```$").matcher(readme).results()
            .map(block -> block.group(1)).toList();
    }

    private static String answers(String example) {
        StringBuilder all = new StringBuilder();
        ANSWER.matcher(example).results().forEach(answer -> all.append(answer.group(1)).append('\n'));
        return all.toString();
    }

    private static String run(String commands, Path folder) throws Exception {
        File printed = folder.resolve("printed").toFile();
        int code = new ProcessBuilder("sh", "-e", "-c", commands).directory(folder.toFile())
            .redirectErrorStream(true).redirectOutput(printed).start().waitFor();
        String text = Files.readString(printed.toPath());
        Check.same("the exit code of " + commands + (code == 0 ? "" : text), code, 0);
        return text;
    }

    private static void copy(Path from, Path to) throws IOException {
        try (Stream<Path> all = Files.walk(from)) {
            all.forEach(one -> doing(() -> {
                Path copy = to.resolve(from.relativize(one));
                Files.createDirectories(copy.getParent());
                Files.copy(one, copy);
            }));
        }
    }

    private static void remove(Path folder) throws IOException {
        try (Stream<Path> all = Files.walk(folder)) {
            all.sorted(Comparator.reverseOrder()).forEach(one -> doing(() -> Files.delete(one)));
        }
    }

    private interface Doing {
        void run() throws IOException;
    }

    private static void doing(Doing doing) {
        try {
            doing.run();
        } catch (IOException e) {
            throw new UncheckedIOException(e);
        }
    }
}
