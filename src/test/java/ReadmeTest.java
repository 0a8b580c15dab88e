import java.io.File;
import java.io.IOException;
import java.nio.file.Files;
import java.nio.file.Path;
import java.nio.file.StandardCopyOption;
import java.util.ArrayList;
import java.util.Comparator;
import java.util.List;
import java.util.Set;
import java.util.TreeSet;
import java.util.regex.Matcher;
import java.util.regex.Pattern;
import java.util.stream.Stream;

/** README.md as it is written: its calls answer what it says, its commands run, its table names every test. */
public final class ReadmeTest {
    private static final Pattern BLOCK = Pattern.compile("(?ms)^```(\\w+)\n(.*?)^```$");
    private static final Pattern ANSWER = Pattern.compile("(\\w+\\.\\w+\\(.*?\\)); +// (-?\\d+)(?:: .+)?");
    private static final Pattern THROWN = Pattern.compile("(\\w+\\.\\w+\\(.*?\\)); +// throws (\\w+)(?:: .+)?");
    private static final Pattern TABLE_ROW = Pattern.compile("(?m)^\\|([^|]*)\\|[^|]*\\|$");
    private static final Pattern TEST = Pattern.compile("`(\\w+Test)`");
    /** It is what runs this test, so running it from here would never end. */
    private static final String ALL_TESTS = "bash .ci/run";

    private ReadmeTest() {
    }

    public static void main(String[] args) throws IOException, InterruptedException {
        String readme = Files.readString(Path.of("README.md"));
        Path work = Files.createTempDirectory("readme");
        try {
            calls(readme, work);
            commands(readme, work);
        } finally {
            delete(work);
        }
        table(readme);
        Due.end();
    }

    // ---- calls

    private static void calls(String readme, Path work) throws IOException, InterruptedException {
        int shown = 0;
        for (String block : blocks(readme, "java")) {
            shown++;
            String name = "ReadmeCalls" + shown;
            String path = classPath();
            Path source = work.resolve(name + ".java");
            Files.writeString(source, programOf(name, block));
            run(work, "javac", "-cp", path, "-d", work.toString(), source.toString());
            run(work, "java", "-cp", work + File.pathSeparator + path, name);
        }
        Due.due("README.md shows calls", shown > 0 ? 1 : 0, 1);
    }

    /** The block as it stands, but what it says behind a call is asked for. */
    private static String programOf(String name, String block) {
        StringBuilder program = new StringBuilder("public final class " + name + " {\n");
        program.append("public static void main(String[] args) {\n");
        int asked = 0;
        for (String line : block.split("\n")) {
            Matcher answer = ANSWER.matcher(line);
            Matcher thrown = THROWN.matcher(line);
            if (answer.matches()) {
                asked++;
                program.append("Due.due(").append(quoted(answer.group(1))).append(", ");
                program.append(answer.group(1)).append(", ").append(answer.group(2)).append("L);\n");
            } else if (thrown.matches()) {
                asked++;
                program.append("try { Due.due(").append(quoted(thrown.group(1))).append(", ");
                program.append(thrown.group(1)).append(" == 0 ? 1 : 0, -1); }");
                program.append(" catch (").append(thrown.group(2)).append(" e) { }\n");
            } else {
                Due.due("a call with an answer that can't be read: " + line, line.contains("//") ? 1 : 0, 0);
                program.append(line).append('\n');
            }
        }
        Due.due("a block of README.md says answers", asked > 0 ? 1 : 0, 1);
        return program.append("Due.end();\n}\n}\n").toString();
    }

    /** Whole, as the calls run in a directory of their own. */
    private static String classPath() {
        StringBuilder path = new StringBuilder();
        for (String entry : System.getProperty("java.class.path").split(File.pathSeparator)) {
            path.append(path.length() == 0 ? "" : File.pathSeparator).append(Path.of(entry).toAbsolutePath());
        }
        return path.toString();
    }

    private static String quoted(String call) {
        return '"' + call.replace("\"", "\\\"") + '"';
    }

    // ---- commands

    /** In a copy with shared beside it, so that what the commands make does not stay here. */
    private static void commands(String readme, Path work) throws IOException, InterruptedException {
        Path copy = Files.createDirectory(work.resolve("checkout"));
        copyTree(Path.of("src"), copy);
        copyTree(Path.of(".ci"), copy);
        Files.createSymbolicLink(work.resolve("shared"), Path.of("../shared").toRealPath());
        boolean isAllShown = false;
        for (String block : blocks(readme, "sh")) {
            for (String command : block.split("\n")) {
                if (command.equals(ALL_TESTS)) {
                    isAllShown = true;
                    Due.due(".ci/run is executable", Files.isExecutable(copy.resolve(".ci/run")) ? 1 : 0, 1);
                } else {
                    run(copy, "bash", "-c", command);
                }
            }
        }
        Due.due("README.md shows " + ALL_TESTS, isAllShown ? 1 : 0, 1);
    }

    // ---- the table of tests

    private static void table(String readme) throws IOException {
        Set<String> named = new TreeSet<>();
        Matcher row = TABLE_ROW.matcher(readme);
        while (row.find()) {
            Matcher test = TEST.matcher(row.group(1));
            while (test.find()) {
                Due.due(test.group(1) + " is named once", named.add(test.group(1)) ? 1 : 0, 1);
            }
        }
        Set<String> there = new TreeSet<>();
        try (Stream<Path> files = Files.list(Path.of("src/test/java"))) {
            files.map(file -> file.getFileName().toString()).filter(file -> file.endsWith("Test.java"))
                .forEach(file -> there.add(file.substring(0, file.length() - ".java".length())));
        }
        Due.due("README.md names " + named + " of " + there, named.equals(there) ? 1 : 0, 1);
    }

    // ---- helpers

    private static List<String> blocks(String readme, String language) {
        List<String> blocks = new ArrayList<>();
        Matcher block = BLOCK.matcher(readme);
        while (block.find()) {
            if (block.group(1).equals(language)) {
                blocks.add(block.group(2));
            }
        }
        return blocks;
    }

    private static void run(Path directory, String... command) throws IOException, InterruptedException {
        Process process = new ProcessBuilder(command).directory(directory.toFile()).redirectErrorStream(true).start();
        String said = new String(process.getInputStream().readAllBytes());
        int code = process.waitFor();
        if (code != 0) {
            System.out.println(said);
        }
        Due.due(String.join(" ", command), code, 0);
    }

    private static void copyTree(Path from, Path to) throws IOException {
        List<Path> paths;
        try (Stream<Path> walk = Files.walk(from)) {
            paths = walk.toList();
        }
        for (Path path : paths) {
            Files.copy(path, to.resolve(path), StandardCopyOption.COPY_ATTRIBUTES);
        }
    }

    private static void delete(Path work) throws IOException {
        List<Path> paths;
        try (Stream<Path> walk = Files.walk(work)) {
            paths = walk.sorted(Comparator.reverseOrder()).toList();
        }
        for (Path path : paths) {
            Files.delete(path);
        }
    }
}
