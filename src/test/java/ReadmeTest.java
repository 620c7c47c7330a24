import java.io.IOException;
import java.nio.file.Files;
import java.nio.file.Path;
import java.util.ArrayList;
import java.util.Comparator;
import java.util.List;
import java.util.Set;
import java.util.TreeSet;
import java.util.regex.MatchResult;
import java.util.regex.Pattern;
import java.util.stream.Collectors;
import java.util.stream.Stream;

/** README.md: its commands do what it says, in a copy of the project, and its table has every test. */
public final class ReadmeTest {
    private static final Path README = Path.of("README.md");
    private static final Path SOURCES = Path.of("src");
    private static final Path TESTS = Path.of("src/test/java");

    public static void main(String[] args) throws IOException, InterruptedException {
        String page = Files.readString(README);
        Path copy = Files.createTempDirectory("readme");
        try {
            copySources(copy);
            Files.writeString(copy.resolve("Example.java"), String.join("", blocks(page, "java")));
            commands(page, copy);
        } finally {
            delete(copy);
        }
        Check.same("tests in the table", tabled(page), written());
        Check.same("the page tells how many calls an object is made for", page.contains("at most 512 calls"), true);
        Check.end("ReadmeTest");
    }

    /** The blocks with commands: to run the example, to run all tests, and to run one. */
    private static void commands(String page, Path folder) throws IOException, InterruptedException {
        List<String> commands = blocks(page, "sh");
        Check.same("blocks with commands", commands.size(), 3);
        Check.same("the example prints", printed(commands.get(0), folder), String.join("", blocks(page, "text")));
        Check.same("all tests are run by", commands.get(1), ".ci/run\n");
        Check.same(".ci/run can be run", Files.isExecutable(Path.of(commands.get(1).strip())), true);
        Check.same("one test prints", printed(commands.get(2), folder).matches("NumberTest: \\d+ checks, 0 wrong\n"),
                true);
    }

    private static List<String> blocks(String page, String kind) {
        return Pattern.compile("```" + kind + "\n(.*?)```", Pattern.DOTALL).matcher(page).results()
                .map(block -> block.group(1)).toList();
    }

    /** What the commands of a block print, up to the first that fails; the machine's own notes are not taken for it. */
    private static String printed(String block, Path folder) throws IOException, InterruptedException {
        StringBuilder all = new StringBuilder();
        for (String command : block.split("\n")) {
            Process process = new ProcessBuilder(command.split(" ")).directory(folder.toFile())
                    .redirectError(ProcessBuilder.Redirect.INHERIT).start();
            process.getOutputStream().close();
            all.append(new String(process.getInputStream().readAllBytes()));
            int code = process.waitFor();
            Check.same(command + ", exit code", code, 0);
            if (code != 0) {
                break;
            }
        }
        return all.toString().replace(System.lineSeparator(), "\n");
    }

    private static Set<String> tabled(String page) {
        return Pattern.compile("^\\| `(\\w+)` \\|", Pattern.MULTILINE).matcher(page).results()
                .map((MatchResult row) -> row.group(1)).collect(Collectors.toCollection(TreeSet::new));
    }

    private static Set<String> written() throws IOException {
        try (Stream<Path> files = Files.list(TESTS)) {
            return files.map(file -> file.getFileName().toString()).filter(name -> name.endsWith("Test.java"))
                    .map(name -> name.replace(".java", "")).collect(Collectors.toCollection(TreeSet::new));
        }
    }

    private static void copySources(Path into) throws IOException {
        for (Path from : below(SOURCES)) {
            Path to = into.resolve(from.toString());
            if (Files.isDirectory(from)) {
                Files.createDirectories(to);
            } else {
                Files.copy(from, to);
            }
        }
    }

    private static void delete(Path folder) throws IOException {
        List<Path> all = below(folder);
        all.sort(Comparator.reverseOrder());
        for (Path one : all) {
            Files.delete(one);
        }
    }

    /** The folder itself and all in it, each folder ahead of what it holds. */
    private static List<Path> below(Path folder) throws IOException {
        try (Stream<Path> all = Files.walk(folder)) {
            return new ArrayList<>(all.toList());
        }
    }
}
