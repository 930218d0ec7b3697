import java.io.IOException;
import java.nio.charset.StandardCharsets;
import java.nio.file.Files;
import java.nio.file.Path;
import java.util.ArrayList;
import java.util.List;

/** .ci/run itself: on small projects made for it, it runs every test, and fails if one fails. */
public final class CiTests {
    private static final Path SCRATCH = Path.of("build/ci");
    private static final String CLASS = "project/src/main/java/LearningPaid.java";
    private static final String OWN = "project/src/test/java/";
    private static final String SHARED = "shared/tests/";
    private static final String GOOD = "";
    private static final String WRONG = "System.exit(1);";
    private static final String THROWS = "if (true) throw new IllegalStateException(\"as it should be\");";
    private static final String UNREADABLE = "no java";

    private record Case(String name, Process process, Path said) {
    }

    private static final List<Case> CASES = new ArrayList<>();

    private CiTests() {
    }

    public static void main(String[] args) throws IOException, InterruptedException {
        Checks.clear(SCRATCH);
        start("good", "", "");
        start("class", CLASS, UNREADABLE);
        start("own", OWN + "ATests.java", test("ATests", WRONG));
        start("ownThrows", OWN + "BTests.java", test("BTests", THROWS));
        start("ownUnreadable", OWN + "ATests.java", UNREADABLE);
        start("shared", SHARED + "SharedA.java", test("SharedA", WRONG));
        start("sharedThrows", SHARED + "deeper/SharedB.java", test("SharedB", THROWS));
        start("sharedUnreadable", SHARED + "SharedA.java", UNREADABLE);
        start("noneShared", SHARED, "");
        for (Case of : CASES) {
            int exit = of.process.waitFor();
            Checks.isTrue(".ci/run on " + of.name + " ended with " + exit, (exit == 0) == of.name.equals("good"));
        }
        says("good", "ATests ran", "BTests ran", "SharedA ran", "SharedB ran", "4 passed, 0 failed");
        says("own", "BTests ran", "SharedA ran", "SharedB ran", "failed: ATests", "3 passed, 1 failed");
        says("ownThrows", "ATests ran", "failed: BTests", "3 passed, 1 failed");
        says("shared", "SharedB ran", "failed: ../shared/tests/SharedA.java", "3 passed, 1 failed");
        says("sharedThrows", "SharedA ran", "failed: ../shared/tests/deeper/SharedB.java", "3 passed, 1 failed");
        says("sharedUnreadable", "SharedB ran", "failed: ../shared/tests/SharedA.java", "3 passed, 1 failed");
        says("noneShared", "no tests found under ../shared/tests", "2 passed, 1 failed");
        Checks.finish("CiTests");
    }

    private static String test(String name, String then) {
        return "public final class " + name + " { public static void main(String[] a) {"
            + " System.out.println(\"" + name + " ran \" + LearningPaid.NONE); " + then + " } }";
    }

    private static void put(Path folder, String file, String text) throws IOException {
        Path path = folder.resolve(file);
        Files.createDirectories(path.getParent());
        Files.writeString(path, text, StandardCharsets.UTF_8);
    }

    /** A project with two tests of its own and two shared ones, all good but for this file; a folder is left out. */
    private static void start(String name, String file, String text) throws IOException {
        Path folder = SCRATCH.resolve(name);
        put(folder, CLASS, "public final class LearningPaid { public static final int NONE = -1; }");
        put(folder, OWN + "ATests.java", test("ATests", GOOD));
        put(folder, OWN + "BTests.java", test("BTests", GOOD));
        if (!file.equals(SHARED)) {
            put(folder, SHARED + "SharedA.java", test("SharedA", GOOD));
            put(folder, SHARED + "deeper/SharedB.java", test("SharedB", GOOD));
        }
        Files.createDirectories(folder.resolve(SHARED));
        if (!text.isEmpty()) {
            put(folder, file, text);
        }
        put(folder, "project/.ci/run", Files.readString(Path.of(".ci/run"), StandardCharsets.UTF_8));
        Path said = folder.resolve("said.txt");
        CASES.add(new Case(name, new ProcessBuilder("sh", folder.resolve("project/.ci/run").toAbsolutePath().toString())
            .redirectErrorStream(true).redirectOutput(said.toFile()).start(), said));
    }

    private static void says(String name, String... due) throws IOException {
        for (Case of : CASES) {
            if (of.name.equals(name)) {
                String said = Files.readString(of.said, StandardCharsets.UTF_8);
                for (String words : due) {
                    Checks.isTrue(".ci/run on " + name + " says <" + words + ">, but it said\n" + said, said.contains(words));
                }
            }
        }
    }
}
