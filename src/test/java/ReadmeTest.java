import java.io.IOException;
import java.nio.file.Files;
import java.nio.file.Path;
import java.util.ArrayList;
import java.util.List;
import java.util.TreeSet;
import java.util.regex.Matcher;
import java.util.regex.Pattern;
import java.util.stream.Collectors;
import java.util.stream.Stream;

/** That what README.md says is so when it is followed word for word. */
public final class ReadmeTest {
    private static final Path README = Path.of("README.md");
    private static final Path SOURCES = Path.of("src");

    public static void main(String[] arguments) throws Exception {
        Due.runAll(ReadmeTest.class);
    }

    /** The example is saved, compiled and run as the page says, and prints what the page says. */
    static void promise01To65ExampleOfTheReadme() throws Exception {
        Path folder = copyOfTheProject();
        Files.writeString(folder.resolve("Example.java"), blocks("java").get(0));
        Due.text("the example", printed(folder, blocks("sh").get(0)), blocks("text").get(0));
        delete(folder);
    }

    static void promise01To65MoreRunsOfTheModel() throws Exception {
        Path folder = copyOfTheProject();
        Due.text("the runs", printed(folder, blocks("sh").get(1)), "1000 runs answer as the model does\n");
        delete(folder);
    }

    /** The table names each test, and none that there is not. */
    static void promise01To65TableOfTests() throws Exception {
        TreeSet<String> named = new TreeSet<>();
        for (String line : Files.readAllLines(README)) {
            Matcher name = Pattern.compile("`(\\w+Test)`").matcher(line.startsWith("|") ? line : "");
            while (name.find()) {
                named.add(name.group(1) + ".java");
            }
        }
        TreeSet<String> tests = new TreeSet<>();
        for (Path file : files(SOURCES.resolve("test/java"))) {
            String name = file.getFileName().toString();
            if (name.endsWith("Test.java")) {
                tests.add(name);
            }
        }
        Due.text("the tests", named.toString(), tests.toString());
    }

    /** The blocks of a language, in their order. */
    private static List<String> blocks(String language) throws IOException {
        List<String> blocks = new ArrayList<>();
        StringBuilder block = null;
        for (String line : Files.readAllLines(README)) {
            if (block == null) {
                block = line.equals("```" + language) ? new StringBuilder() : null;
            } else if (line.equals("```")) {
                blocks.add(block.toString());
                block = null;
            } else {
                block.append(line).append('\n');
            }
        }
        return blocks;
    }

    private static String printed(Path folder, String commands) throws Exception {
        StringBuilder printed = new StringBuilder();
        for (String command : commands.split("\n")) {
            Process process = new ProcessBuilder(command.split(" ")).directory(folder.toFile())
                    .redirectError(ProcessBuilder.Redirect.INHERIT).start();
            printed.append(new String(process.getInputStream().readAllBytes()));
            Due.is(command, process.waitFor(), 0);
        }
        return printed.toString();
    }

    private static Path copyOfTheProject() throws IOException {
        Path folder = Files.createTempDirectory("readme");
        for (Path file : files(SOURCES)) {
            Path copy = folder.resolve(file);
            Files.createDirectories(copy.getParent());
            Files.copy(file, copy);
        }
        return folder;
    }

    private static List<Path> files(Path folder) throws IOException {
        try (Stream<Path> all = Files.walk(folder)) {
            return all.filter(Files::isRegularFile).collect(Collectors.toList());
        }
    }

    private static void delete(Path folder) throws IOException {
        List<Path> all;
        try (Stream<Path> walk = Files.walk(folder)) {
            all = walk.collect(Collectors.toList());
        }
        // what is in a folder stands behind it
        for (int index = all.size() - 1; index >= 0; index--) {
            Files.delete(all.get(index));
        }
    }
}
