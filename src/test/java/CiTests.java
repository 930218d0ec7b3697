import java.io.IOException;
import java.nio.charset.StandardCharsets;
import java.nio.file.Files;
import java.nio.file.Path;

/** .ci/run itself: on small projects made for it, it runs every test, and fails if one fails. */
public final class CiTests {
    private static final Path SCRATCH = Path.of("build/ci");
    private static final String CLASS = "project/src/main/java/LearningPaid.java";
    private static final String OWN = "project/src/test/java/";
    private static final String SHARED = "shared/tests/";
    private static final String GOOD = "";
    private static final String WRONG = "System.exit(1);";
    private static final String THROWS = "if (true) throw new IllegalStateException(\"as it should be\");";
    private static final String UNREADABLE = "no java";
    private static String tried = "";
    private static String said = "";

    public static void main(String[] args) throws IOException, InterruptedException {
        Checks.clear(SCRATCH);
        run("good", "", "");
        says("ATests ran", "BTests ran", "SharedA ran", "SharedB ran", "4 passed, 0 failed");
        run("class", CLASS, UNREADABLE);
        run("own", OWN + "ATests.java", test("ATests", WRONG));
        says("BTests ran", "SharedA ran", "SharedB ran", "failed: ATests", "3 passed, 1 failed");
        run("ownThrows", OWN + "BTests.java", test("BTests", THROWS));
        says("ATests ran", "SharedA ran", "SharedB ran", "failed: BTests", "3 passed, 1 failed");
        run("ownUnreadable", OWN + "ATests.java", UNREADABLE);
        run("shared", SHARED + "SharedA.java", test("SharedA", WRONG));
        says("SharedB ran", "failed: ../shared/tests/SharedA.java", "3 passed, 1 failed");
        run("sharedThrows", SHARED + "deeper/SharedB.java", test("SharedB", THROWS));
        says("SharedA ran", "failed: ../shared/tests/deeper/SharedB.java", "3 passed, 1 failed");
        run("sharedUnreadable", SHARED + "SharedA.java", UNREADABLE);
        says("SharedB ran", "failed: ../shared/tests/SharedA.java", "3 passed, 1 failed");
        run("noneShared", SHARED, "");
        says("no tests found under ../shared/tests", "2 passed, 1 failed");
        Checks.finish("CiTests");
    }

    private static String test(String name, String then) {
        return "public final class " + name + " { public static void main(String[] a) {"
            + " System.out.println(\"" + name + " ran \" + LearningPaid.NONE); " + then + " } }";
    }

    private static void put(Path folder, String file, String text) throws IOException {
        Path path = folder.resolve(file);
        Files.createDirectories(path.getParent());
        Files.writeString(path, text, StandardCharsets.UTF_8);
    }

    /** A project with two tests of its own and two shared ones, all good but for this file; a folder is left empty. */
    private static void run(String name, String file, String text) throws IOException, InterruptedException {
        Path folder = SCRATCH.resolve(name);
        put(folder, CLASS, "public final class LearningPaid { public static final int NONE = -1; }");
        put(folder, OWN + "ATests.java", test("ATests", GOOD));
        put(folder, OWN + "BTests.java", test("BTests", GOOD));
        Files.createDirectories(folder.resolve(SHARED));
        if (!file.equals(SHARED)) {
            put(folder, SHARED + "SharedA.java", test("SharedA", GOOD));
            put(folder, SHARED + "deeper/SharedB.java", test("SharedB", GOOD));
        }
        if (!text.isEmpty()) {
            put(folder, file, text);
        }
        put(folder, "project/.ci/run", Files.readString(Path.of(".ci/run"), StandardCharsets.UTF_8));
        Path told = folder.resolve("said.txt");
        Process run = new ProcessBuilder("sh", folder.resolve("project/.ci/run").toAbsolutePath().toString())
            .redirectErrorStream(true).redirectOutput(told.toFile()).start();
        int exit = run.waitFor();
        tried = name;
        said = Files.readString(told, StandardCharsets.UTF_8);
        Checks.isTrue(".ci/run on " + name + " ended with " + exit, (exit == 0) == name.equals("good"));
    }

    private static void says(String... due) {
        for (String words : due) {
            Checks.isTrue(".ci/run on " + tried + " says <" + words + ">, but it said\n" + said, said.contains(words));
        }
    }
}
