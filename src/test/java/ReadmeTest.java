import java.io.IOException;
import java.nio.charset.StandardCharsets;
import java.nio.file.Files;
import java.nio.file.Path;
import java.util.ArrayList;
import java.util.Collections;
import java.util.Comparator;
import java.util.List;
import java.util.regex.Pattern;
import java.util.stream.Stream;

/** README.md: its commands work as they stand, the example prints what is told there, and the files named are there. */
public final class ReadmeTest {
    private static final Path EXAMPLE = Path.of("src/example/java/HarbourDay.java");

    private ReadmeTest() {
    }

    public static void main(String[] args) throws IOException, InterruptedException {
        String readme = Files.readString(Path.of("README.md"));
        quotedLines(readme);
        namedFiles(readme);
        Path copy = Files.createTempDirectory("readme");
        try {
            copyTree(Path.of("src"), copy.resolve("src"));
            commands(readme, copy);
        } finally {
            deleteTree(copy);
        }
        Check.end("ReadmeTest");
    }

    /** The fenced blocks of one language, in their order. */
    private static List<String> blocks(String readme, String language) {
        List<String> found = new ArrayList<>();
        var block = Pattern.compile("(?ms)^```" + language + "\n(.*?)^```$").matcher(readme);
        while (block.find()) {
            found.add(block.group(1));
        }
        return found;
    }

    private static void quotedLines(String readme) throws IOException {
        Check.part("lines of Java");
        List<String> lines = Files.readString(EXAMPLE).lines().map(String::strip).toList();
        for (String block : blocks(readme, "java")) {
            for (String line : block.lines().toList()) {
                Check.same("true", "" + lines.contains(line.strip()), "being a line of the example: " + line);
            }
        }
    }

    private static void namedFiles(String readme) throws IOException {
        Check.part("files");
        var path = Pattern.compile("`((?:\\.\\./shared|src|\\.ci)/[\\w/.]+)`").matcher(readme);
        while (path.find()) {
            String name = path.group(1);
            Check.same("true", "" + Files.exists(Path.of(name)), "being there: " + name);
        }
        List<String> tests = new ArrayList<>();
        try (Stream<Path> files = Files.list(Path.of("src/test/java"))) {
            files.map(file -> file.getFileName().toString()).filter(name -> name.endsWith("Test.java"))
                    .forEach(name -> tests.add(name.replace(".java", "")));
        }
        for (String test : tests) {
            Check.same("true", "" + readme.contains("- `" + test + "`:"), "being told of: " + test);
        }
    }

    private static void commands(String readme, Path copy) throws IOException, InterruptedException {
        Check.part("commands");
        List<String> blocks = blocks(readme, "sh");
        String told = blocks(readme, "text").get(0);
        Check.due(3, blocks::size);
        Check.same("0\n" + told, run(blocks.get(0), copy), "the example");
        // This test runs in .ci/run, which therefore is looked at, and not run.
        Check.due(".ci/run\n", () -> blocks.get(1));
        Check.due(true, () -> Files.isExecutable(Path.of(".ci/run")));
        String printed = run(blocks.get(2), copy);
        Check.same("true", "" + printed.matches("0\nPromisesTest: \\d+ checks, 0 wrong\n"), "one test: " + printed);
    }

    /** The exit code of the commands and what they print; errors go where this test's own go. */
    private static String run(String commands, Path folder) throws IOException, InterruptedException {
        Process process = new ProcessBuilder("sh", "-ec", commands).directory(folder.toFile())
                .redirectError(ProcessBuilder.Redirect.INHERIT).start();
        process.getOutputStream().close();
        String printed = new String(process.getInputStream().readAllBytes(), StandardCharsets.UTF_8);
        return process.waitFor() + "\n" + printed;
    }

    private static List<Path> tree(Path root) throws IOException {
        try (Stream<Path> files = Files.walk(root)) {
            return files.sorted(Comparator.naturalOrder()).toList();
        }
    }

    private static void copyTree(Path from, Path to) throws IOException {
        for (Path file : tree(from)) {
            Files.copy(file, to.resolve(from.relativize(file).toString()));
        }
    }

    private static void deleteTree(Path root) throws IOException {
        List<Path> deepestFirst = new ArrayList<>(tree(root));
        Collections.reverse(deepestFirst);
        for (Path file : deepestFirst) {
            Files.delete(file);
        }
    }
}
