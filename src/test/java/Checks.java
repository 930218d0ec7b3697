import java.io.IOException;
import java.nio.file.Files;
import java.nio.file.Path;
import java.util.Comparator;
import java.util.List;
import java.util.stream.Stream;

/** What the tests share: counting wrong answers, putting a text on the tape, and folders to try things in. */
final class Checks {
    private static int wrong = 0;
    private static int made = 0;

    private Checks() {
    }

    static void due(String call, long got, long want) {
        made++;
        if (got != want) {
            wrong++;
            System.out.println(call + " answered " + got + ", due is " + want);
        }
    }

    static void due(String call, boolean got, boolean want) {
        due(call, got ? 1L : 0L, want ? 1L : 0L);
    }

    static void isTrue(String what, boolean so) {
        due(what, so, true);
    }

    /** Puts the characters (0 to 255) on the tape, which must be empty. */
    static void tape(LearningPaid x, String text) {
        StringBuilder padded = new StringBuilder(text);
        while (padded.length() % 20 != 0) {
            padded.append(' ');
        }
        for (int i = 0; i < padded.length(); i += 20) {
            x.feed(word(padded, i), word(padded, i + 4), word(padded, i + 8), word(padded, i + 12),
                word(padded, i + 16));
        }
        due("end of <" + text + ">", x.end(text.length()), text.length());
    }

    static int text(LearningPaid x, String text) {
        tape(x, text);
        return x.text();
    }

    private static int word(CharSequence text, int i) {
        return (text.charAt(i) & 255) << 24 | (text.charAt(i + 1) & 255) << 16 | (text.charAt(i + 2) & 255) << 8
            | text.charAt(i + 3) & 255;
    }

    /** Leaves nothing of what an earlier run put there. */
    static void clear(Path folder) throws IOException {
        if (Files.exists(folder)) {
            List<Path> deepestFirst;
            try (Stream<Path> below = Files.walk(folder)) {
                deepestFirst = below.sorted(Comparator.reverseOrder()).toList();
            }
            for (Path path : deepestFirst) {
                Files.delete(path);
            }
        }
    }

    static int made() {
        return made;
    }

    static void finish(String tests) {
        System.out.println(tests + ": " + made + " checks, " + wrong + " wrong");
        if (wrong != 0) {
            System.exit(1);
        }
    }
}
