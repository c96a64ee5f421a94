import java.io.File;
import java.io.IOException;
import java.nio.file.Files;
import java.nio.file.Path;
import java.util.ArrayList;
import java.util.Comparator;
import java.util.List;
import java.util.TreeSet;
import java.util.regex.Matcher;
import java.util.regex.Pattern;
import java.util.stream.Stream;

/** Tries README.md word for word: its program, its commands, and the names that it names. */
public final class ReadmeTest {
    private static final Pattern BLOCK = Pattern.compile("(?s)```(java|sh)\n(.*?)```");
    private static final Pattern REMARK = Pattern.compile("System\\.out\\.println\\(.*// ([^:]+):");
    private static final Pattern TEST = Pattern.compile("`(\\w+Test)`");
    private static final String ALL_TESTS = ".ci/run";

    public static void main(String[] args) throws IOException, InterruptedException {
        String readme = Files.readString(Path.of("README.md"));
        Path place = Files.createTempDirectory("readme");
        try {
            tryIn(layOut(place), readme);
        } finally {
            remove(place);
        }
        namesTests(readme);
        Script.end();
    }

    /** A directory like that of the project, in which the commands may leave what they make. */
    private static Path layOut(Path place) throws IOException {
        Path project = Files.createDirectory(place.resolve("project"));
        Files.createSymbolicLink(project.resolve("src"), Path.of("src").toAbsolutePath());
        Files.createSymbolicLink(place.resolve("shared"), Path.of("../shared").toRealPath());
        return project;
    }

    private static void tryIn(Path project, String readme) throws IOException, InterruptedException {
        List<String> commands = new ArrayList<>();
        List<String> programs = new ArrayList<>();
        Matcher block = BLOCK.matcher(readme);
        while (block.find()) {
            if (block.group(1).equals("sh")) {
                commands.addAll(List.of(block.group(2).strip().split("\n")));
            } else {
                programs.add(block.group(2));
            }
        }
        Script.due("programs in the README", programs.size(), 1);
        Files.writeString(project.resolve("Example.java"), programs.get(0));
        Script.due("it tells " + ALL_TESTS, commands.remove(ALL_TESTS) ? 1 : 0, 1);
        Script.due(ALL_TESTS + " can be run", Files.isExecutable(Path.of(ALL_TESTS)) ? 1 : 0, 1);
        Script.due("it runs the example", commands.contains("java -cp out Example") ? 1 : 0, 1);
        for (String command : commands) {
            String said = run(project, command);
            if (command.endsWith(" Example")) {
                Script.same("what the example prints", said, remarks(programs.get(0)));
            }
        }
    }

    private static String run(Path project, String command) throws IOException, InterruptedException {
        File said = project.resolve("said").toFile();
        Process process = new ProcessBuilder("sh", "-c", command).directory(project.toFile())
            .redirectErrorStream(true).redirectOutput(said).start();
        Script.due("the exit code of " + command, process.waitFor(), 0);
        return Files.readString(said.toPath());
    }

    private static String remarks(String program) {
        StringBuilder text = new StringBuilder();
        Matcher remark = REMARK.matcher(program);
        while (remark.find()) {
            text.append(remark.group(1)).append('\n');
        }
        return text.toString();
    }

    /** Every test of the project is named, and every test that is named is there. */
    private static void namesTests(String readme) throws IOException {
        TreeSet<String> named = new TreeSet<>();
        Matcher test = TEST.matcher(readme);
        while (test.find()) {
            named.add(test.group(1));
        }
        TreeSet<String> found = new TreeSet<>();
        try (Stream<Path> files = Files.list(Path.of("src/test/java"))) {
            files.map(file -> file.getFileName().toString()).filter(name -> name.endsWith("Test.java"))
                .forEach(name -> found.add(name.replace(".java", "")));
        }
        Script.same("the tests that the README names", named.toString(), found.toString());
    }

    private static void remove(Path place) throws IOException {
        List<Path> all;
        try (Stream<Path> paths = Files.walk(place)) {
            all = paths.sorted(Comparator.reverseOrder()).toList();
        }
        for (Path path : all) {
            Files.delete(path);
        }
    }
}
