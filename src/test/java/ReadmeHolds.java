import java.io.File;
import java.io.IOException;
import java.nio.charset.StandardCharsets;
import java.nio.file.Files;
import java.nio.file.Path;
import java.util.ArrayList;
import java.util.Collections;
import java.util.List;
import java.util.regex.Matcher;
import java.util.regex.Pattern;

/** README.md: its example, made and run by its own commands, prints what it says; and it names every test. */
public final class ReadmeHolds {
    private static final String PROGRAM = "src/main/java/PayHouse.java";
    private static int checks;
    private static int wrong;

    public static void main(String[] args) throws IOException, InterruptedException {
        String readme = Files.readString(Path.of("README.md"), StandardCharsets.UTF_8);
        List<String> commands = blocks(readme, "sh");
        List<String> programs = blocks(readme, "java");
        List<String> outputs = blocks(readme, "text");
        same("the blocks of commands", commands.size(), 2);
        same("the programs", programs.size(), 1);
        same("the outputs", outputs.size(), 1);
        if (wrong == 0) {
            example(commands.get(0), programs.get(0), outputs.get(0));
            same("the command of the tests", commands.get(1), ".ci/run\n");
            same(".ci/run can be executed", Files.isExecutable(Path.of(".ci/run")), true);
        }
        namesTests(readme);
        namesPaths(readme);
        System.out.println(checks + " checks of README.md, " + wrong + " wrong");
        if (wrong != 0) {
            System.exit(1);
        }
    }

    private static void same(String what, Object got, Object due) {
        checks++;
        if (!got.equals(due)) {
            wrong++;
            System.out.println(what + ": got " + got + ", due is " + due);
        }
    }

    private static List<String> blocks(String readme, String language) {
        List<String> found = new ArrayList<>();
        Matcher matcher = Pattern.compile("(?s)```" + language + "\n(.*?)```").matcher(readme);
        while (matcher.find()) {
            found.add(matcher.group(1));
        }
        return found;
    }

    private static void example(String commands, String program, String output) throws IOException, InterruptedException {
        Path folder = Files.createTempDirectory("readme");
        Path copy = folder.resolve(PROGRAM);
        Files.createDirectories(copy.getParent());
        Files.copy(Path.of(PROGRAM), copy);
        Files.writeString(folder.resolve("Example.java"), program, StandardCharsets.UTF_8);
        Path printed = folder.resolve("printed");
        Process process = new ProcessBuilder("sh", "-e", "-c", commands).directory(folder.toFile())
                .redirectErrorStream(true).redirectOutput(printed.toFile()).start();
        same("the exit code of the example", process.waitFor(), 0);
        same("what the example prints", Files.readString(printed, StandardCharsets.UTF_8), output);
        remove(folder);
    }

    private static void remove(Path folder) throws IOException {
        List<Path> paths = new ArrayList<>();
        try (var all = Files.walk(folder)) {
            all.forEach(paths::add);
        }
        Collections.reverse(paths);
        for (Path path : paths) {
            Files.delete(path);
        }
    }

    private static void namesTests(String readme) {
        File[] tests = new File("src/test/java").listFiles();
        same("there are tests", tests != null && tests.length > 0, true);
        for (File test : tests == null ? new File[0] : tests) {
            String name = test.getName().replace(".java", "");
            same("README.md names " + name, readme.contains("`" + name + "`"), true);
        }
    }

    private static void namesPaths(String readme) {
        Matcher matcher = Pattern.compile("`([\\w.]+/[\\w./]+)`").matcher(readme);
        while (matcher.find()) {
            same(matcher.group(1) + " is there", Files.exists(Path.of(matcher.group(1))), true);
        }
    }
}
