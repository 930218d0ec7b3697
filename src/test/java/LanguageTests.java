import java.io.IOException;
import java.lang.reflect.Constructor;
import java.lang.reflect.Field;
import java.lang.reflect.Method;
import java.lang.reflect.Modifier;
import java.nio.charset.StandardCharsets;
import java.nio.file.Files;
import java.nio.file.Path;
import java.util.ArrayList;
import java.util.HashSet;
import java.util.List;
import java.util.Set;
import java.util.TreeSet;
import java.util.regex.Matcher;
import java.util.regex.Pattern;

/** The face against the document's, and what of LANGUAGE.md a program can look at; the numbers are that page's rules. */
public final class LanguageTests {
    private static final Path SOURCE = Path.of("src/main/java/LearningPaid.java");

    public static void main(String[] args) throws IOException {
        Path shared = Path.of(args.length > 0 ? args[0] : "../shared");
        face(Files.readString(shared.resolve("DOC.md"), StandardCharsets.UTF_8));
        members();
        words(Files.readString(SOURCE, StandardCharsets.UTF_8));
        Checks.finish("LanguageTests");
    }

    private static List<Class<?>> classes() {
        List<Class<?>> all = new ArrayList<>();
        all.add(LearningPaid.class);
        all.addAll(List.of(LearningPaid.class.getDeclaredClasses()));
        return all;
    }

    private static String parameters(Class<?>[] types) {
        StringBuilder text = new StringBuilder();
        for (Class<?> type : types) {
            text.append(text.length() == 0 ? "" : ", ").append(type.getSimpleName());
        }
        return "(" + text + ")";
    }

    /** Rule 1: the document's face, and no more. */
    private static void face(String doc) {
        int from = doc.indexOf("```java", doc.indexOf("## The public face"));
        String block = doc.substring(from, doc.indexOf("```", from + 7));
        Set<String> due = new TreeSet<>();
        Matcher m = Pattern.compile("public (static final \\w+ \\w+|[\\w ]*\\([^)]*\\))").matcher(block);
        while (m.find()) {
            due.add(m.group(1).replaceAll("(\\w+) \\w+(?=[,)])", "$1"));
        }
        Set<String> got = new TreeSet<>();
        for (Constructor<?> c : LearningPaid.class.getConstructors()) {
            got.add("LearningPaid" + parameters(c.getParameterTypes()));
        }
        for (Method method : LearningPaid.class.getDeclaredMethods()) {
            if (Modifier.isPublic(method.getModifiers())) {
                got.add(method.getReturnType().getSimpleName() + " " + method.getName()
                    + parameters(method.getParameterTypes()));
            }
        }
        for (Field field : LearningPaid.class.getDeclaredFields()) {
            if (Modifier.isPublic(field.getModifiers())) {
                got.add("static final " + field.getType().getSimpleName() + " " + field.getName());
            }
        }
        Checks.due("parts of the face", due.size(), 42);
        Checks.isTrue("the face is " + got + ", due is " + due, got.equals(due));
        Checks.due("NONE", LearningPaid.NONE, -1);
        int kinds = LearningPaid.class.getModifiers();
        Checks.isTrue("the class is public and final", Modifier.isPublic(kinds) && Modifier.isFinal(kinds));
    }

    private static void members() {
        Set<String> open = new HashSet<>();
        for (Method method : LearningPaid.class.getDeclaredMethods()) {
            int is = method.getModifiers();
            Checks.isTrue("1: " + method + " is public or private", Modifier.isPublic(is) || Modifier.isPrivate(is));
            if (Modifier.isPublic(is)) {
                open.add(method.getName());
            }
        }
        for (Field field : LearningPaid.class.getDeclaredFields()) {
            Checks.isTrue("1: " + field, Modifier.isPrivate(field.getModifiers()) || field.getName().equals("NONE"));
        }
        Checks.isTrue("11: some twelve classes", classes().size() <= 12);
        for (Class<?> of : classes()) {
            int fields = 0;
            for (Field field : of.getDeclaredFields()) {
                boolean shared = Modifier.isStatic(field.getModifiers());
                fields += shared ? 0 : 1;
                Checks.isTrue("5: " + field, !shared || Modifier.isFinal(field.getModifiers())
                    && Set.of("int", "long", "boolean", "char", "String", "int[]", "long[]", "char[]", "byte[]")
                    .contains(field.getType().getSimpleName()));
            }
            Checks.isTrue("11: some twenty fields in " + of, fields <= 20);
            if (of != LearningPaid.class) {
                int is = of.getModifiers();
                Checks.isTrue("2: " + of, Modifier.isStatic(is) && !Modifier.isPublic(is)
                    && !Modifier.isProtected(is) && of.getDeclaredClasses().length == 0);
                for (Method method : of.getDeclaredMethods()) {
                    Checks.isTrue("1: name of " + method, !open.contains(method.getName()));
                    Checks.isTrue("11: parameters of " + method, method.getParameterCount() <= 7);
                    Checks.isTrue("6: name of " + method,
                        !Set.of("equals", "hashCode", "toString").contains(method.getName()));
                }
            }
        }
        for (Method method : LearningPaid.class.getDeclaredMethods()) {
            Checks.isTrue("11: parameters of " + method,
                method.getParameterCount() <= 7 || Modifier.isPublic(method.getModifiers()));
        }
    }

    private static void words(String source) {
        Checks.isTrue("signs 1 to 127", source.chars().allMatch(c -> c > 0 && c < 128));
        String code = source.replaceAll("(?s)/\\*.*?\\*/", "").replaceAll("//[^\n]*", "")
            .replaceAll("\"[^\"\n]*\"", "\"\"").replaceAll("'(\\\\.|[^'\\\\])'", "0");
        for (String word : List.of("throw", "throws", "try", "catch", "finally", "synchronized", "assert", "package",
            "float", "double", "volatile", "transient", "native", "protected", "var", "Object", "System.out", "Random")) {
            Checks.isTrue("no " + word, !Pattern.compile("\\b" + Pattern.quote(word) + "\\b").matcher(code).find());
        }
        for (String sign : List.of("->", "::", "static {", "while (true)", "for (;;)", "@", "\"\" +", "+ \"\"")) {
            Checks.isTrue("no " + sign, !code.contains(sign));
        }
        Matcher imports = Pattern.compile("import ([^;]+);").matcher(code);
        while (imports.find()) {
            Checks.isTrue("4: " + imports.group(),
                Set.of("java.util.Arrays", "java.util.ArrayList", "java.util.List").contains(imports.group(1)));
        }
        Matcher calls = Pattern.compile("\\b(Arrays|System|Math|Integer|Long)\\.(\\w+)").matcher(code);
        while (calls.find()) {
            Checks.isTrue("4: " + calls.group(), Set.of("Arrays.fill", "Arrays.copyOf", "Arrays.copyOfRange",
                "System.arraycopy", "Math.min", "Math.max", "Math.abs", "Integer.bitCount").contains(calls.group()));
        }
        lengths(code);
    }

    /** Rule 11: a method's lines, from its head to the brace that stands below it. */
    private static void lengths(String code) {
        String[] lines = code.split("\n");
        int methods = 0;
        for (int i = 0; i < lines.length; i++) {
            Matcher head = Pattern.compile("^( +)[\\w<>\\[\\] ]+ (\\w+)\\(.*").matcher(lines[i]);
            if (head.matches() && (head.group(1).length() == 4 || head.group(1).length() == 8)
                    && !lines[i].endsWith(";") && !lines[i].trim().startsWith("return")
                    && !lines[i].trim().matches("(if|for|while|switch|\\}).*")) {
                int end = i;
                while (end < lines.length && !lines[end].equals(head.group(1) + "}")) {
                    end++;
                }
                methods++;
                Checks.isTrue("11: " + head.group(2) + " has " + (end - i + 1) + " lines", end - i < 60);
            }
        }
        Checks.isTrue("11: " + methods + " methods were looked at", methods > 100);
    }
}
