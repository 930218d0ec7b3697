import java.io.IOException;
import java.lang.reflect.Method;
import java.lang.reflect.Modifier;
import java.nio.charset.StandardCharsets;
import java.nio.file.Files;
import java.nio.file.Path;
import java.nio.file.StandardCopyOption;
import java.util.ArrayList;
import java.util.List;
import java.util.regex.Matcher;
import java.util.regex.Pattern;
import java.util.stream.Stream;

/** README.md: its lines of use compile and answer as it says, by its own commands; its way to run the tests runs all. */
public final class ReadmeTests {
    private static final Path SCRATCH = Path.of("build/readme");
    private static final Path CLASS = Path.of("src/main/java/LearningPaid.java");
    private static final Path TESTS = Path.of("src/test/java");
    private static final Pattern ANSWERED =
        Pattern.compile("((?:\\w+ (\\w+) = )?(.*));\\s*// (-?\\d+|true|false)(, .*)?");

    public static void main(String[] args) throws IOException, InterruptedException {
        String readme = Files.readString(Path.of("README.md"), StandardCharsets.UTF_8);
        use(readme);
        tests(readme);
        Checks.finish("ReadmeTests");
    }

    /** The lines between this fence and the next, behind a heading. */
    private static List<String> block(String readme, String heading, String fence) {
        int from = readme.indexOf("\n" + fence + "\n", readme.indexOf("\n## " + heading + "\n"));
        Checks.isTrue("README.md has " + fence + " under " + heading, from >= 0);
        return from < 0 ? List.of() : readme.substring(from + fence.length() + 2, readme.indexOf("\n```\n", from + 1))
            .lines().toList();
    }

    private static void use(String readme) throws IOException, InterruptedException {
        List<String> lines = block(readme, "Use", "```java");
        List<String> asked = new ArrayList<>();
        List<String> due = new ArrayList<>();
        StringBuilder program = new StringBuilder("public final class Use {\n    public static void main(String[] a) {\n");
        for (String line : lines) {
            Matcher m = ANSWERED.matcher(line);
            if (m.matches()) {
                asked.add(line);
                due.add(m.group(4));
                program.append(m.group(2) == null ? "" : m.group(1) + ";\n")
                    .append("System.out.println(").append(m.group(2) == null ? m.group(3) : m.group(2)).append(");\n");
            } else {
                Checks.isTrue("README.md tells what this answers: " + line, !line.contains("board."));
                program.append(line).append('\n');
            }
        }
        everyCall(String.join("\n", lines));
        List<String> got = run(program.append("    }\n}\n").toString(), block(readme, "Use", "```sh"));
        Checks.due("README.md: lines that answered", got.size(), due.size());
        for (int i = 0; i < Math.min(got.size(), due.size()); i++) {
            Checks.isTrue("README.md: " + asked.get(i) + " but it answered " + got.get(i), got.get(i).equals(due.get(i)));
        }
    }

    private static void everyCall(String lines) {
        for (Method method : LearningPaid.class.getDeclaredMethods()) {
            if (Modifier.isPublic(method.getModifiers())) {
                Checks.isTrue("README.md shows the use of " + method.getName(),
                    lines.contains("board." + method.getName() + "("));
            }
        }
    }

    /** What the program says, compiled and run by README.md's own commands in a folder with the class alone. */
    private static List<String> run(String program, List<String> commands) throws IOException, InterruptedException {
        Checks.clear(SCRATCH);
        Path copy = SCRATCH.resolve(CLASS);
        Files.createDirectories(copy.getParent());
        Files.copy(CLASS, copy, StandardCopyOption.REPLACE_EXISTING);
        Files.writeString(SCRATCH.resolve("Use.java"), program, StandardCharsets.UTF_8);
        Path said = SCRATCH.resolve("said.txt");
        Process shell = new ProcessBuilder("sh", "-e", "-c", String.join("\n", commands)).directory(SCRATCH.toFile())
            .redirectErrorStream(true).redirectOutput(said.toFile()).start();
        int exit = shell.waitFor();
        Checks.due("README.md: exit code of its commands", exit, 0);
        List<String> lines = Files.readAllLines(said, StandardCharsets.UTF_8);
        if (exit != 0) {
            lines.forEach(System.out::println);
        }
        return lines;
    }

    /** .ci/run takes what is named ..Tests.java: every program under src/test must be, and README.md tells of it. */
    private static void tests(String readme) throws IOException {
        String part = readme.substring(readme.indexOf("\n## Tests\n"));
        Checks.isTrue("README.md's way to run the tests is .ci/run", block(readme, "Tests", "```sh").equals(List.of(".ci/run")));
        Checks.isTrue(".ci/run can be run", Files.isExecutable(Path.of(".ci/run")));
        List<Path> all;
        try (Stream<Path> below = Files.walk(Path.of("src/test"))) {
            all = below.filter(Files::isRegularFile).toList();
        }
        for (Path file : all) {
            String name = file.getFileName().toString();
            boolean isProgram = Files.readString(file, StandardCharsets.UTF_8).contains("public static void main(");
            Checks.isTrue(file + " lies in " + TESTS, file.getParent().equals(TESTS));
            Checks.isTrue(file + " is a test just if it is a program", isProgram == name.endsWith("Tests.java"));
            Checks.isTrue("README.md tells of " + name, part.contains("`" + name + "`"));
        }
        Matcher named = Pattern.compile("`(\\w+\\.java)`").matcher(part);
        while (named.find()) {
            Checks.isTrue(named.group(1) + " is there", Files.isRegularFile(TESTS.resolve(named.group(1))));
        }
    }
}
