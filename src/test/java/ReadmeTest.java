import java.lang.reflect.Method;
import java.lang.reflect.Modifier;
import java.net.URL;
import java.net.URLClassLoader;
import java.nio.file.Files;
import java.nio.file.Path;
import java.nio.file.Paths;
import java.util.ArrayList;
import java.util.List;
import java.util.regex.Matcher;
import java.util.regex.Pattern;
import javax.tools.JavaCompiler;
import javax.tools.ToolProvider;

/** What README.md shows of the use of the class compiles, and answers as it says there. */
public final class ReadmeTest {
    private static final Pattern ANSWERED =
            Pattern.compile("(x\\.\\w+\\(.*\\)); *// (-?\\d+|NONE|BAD|STATE|FULL)\\b.*");

    public static void main(String[] args) throws Exception {
        List<String> page = Files.readAllLines(Paths.get("README.md"));
        List<String> shown = shownCode(page);
        Check.due("README.md shows calls", 1, shown.size() > 0 ? 1 : 0);
        everyCallIsNamed(String.join("\n", page));
        runShown(shown);
        Check.end();
    }

    private static List<String> shownCode(List<String> page) {
        List<String> code = new ArrayList<>();
        boolean isCode = false;
        for (String line : page) {
            if (line.startsWith("```")) {
                isCode = line.equals("```java");
            } else if (isCode) {
                code.add(line);
            }
        }
        return code;
    }

    private static void everyCallIsNamed(String page) {
        for (Method m : MarkedBody.class.getDeclaredMethods()) {
            if (Modifier.isPublic(m.getModifiers())) {
                Check.due("README.md shows " + m.getName(), 1, page.contains("x." + m.getName() + "(") ? 1 : 0);
            }
        }
    }

    /** The calls as they stand, and once more with each answer looked at. */
    private static void runShown(List<String> shown) throws Exception {
        StringBuilder plain = new StringBuilder();
        StringBuilder looked = new StringBuilder();
        for (String line : shown) {
            plain.append(line).append('\n');
            looked.append(line.startsWith("x.") ? lookedAt(line) : line).append('\n');
        }
        Path room = Files.createTempDirectory("readme");
        Path source = room.resolve("Shown.java");
        Files.writeString(source, "public final class Shown {\n    private static final int NONE = MarkedBody.NONE,"
                + " BAD = MarkedBody.BAD, STATE = MarkedBody.STATE, FULL = MarkedBody.FULL;\n"
                + "public static void plain() {\n" + plain + "}\n"
                + "public static void looked(java.util.List<long[]> answers) {\n" + looked + "}\n}\n");
        JavaCompiler compiler = ToolProvider.getSystemJavaCompiler();
        int failed = compiler.run(null, null, null, "-Xlint:all", "-Werror", "-cp", System.getProperty("java.class.path"),
                "-d", room.toString(), source.toString());
        Check.due("README.md compiles", 0, failed);
        if (failed == 0) {
            lookAtAnswers(room, shown);
        }
        Files.deleteIfExists(room.resolve("Shown.class"));
        Files.delete(source);
        Files.delete(room);
    }

    private static String lookedAt(String line) {
        Matcher m = ANSWERED.matcher(line);
        boolean isAnswered = m.matches();
        Check.due("README.md says what it answers: " + line, 1, isAnswered ? 1 : 0);
        return isAnswered ? "answers.add(new long[] {" + m.group(2) + ", " + m.group(1) + "});" : line;
    }

    private static void lookAtAnswers(Path room, List<String> shown) throws Exception {
        List<String> calls = new ArrayList<>(shown);
        calls.removeIf(line -> !ANSWERED.matcher(line).matches());
        List<long[]> answers = new ArrayList<>();
        try (URLClassLoader loader = new URLClassLoader(new URL[] {room.toUri().toURL()})) {
            Class<?> made = loader.loadClass("Shown");
            made.getMethod("plain").invoke(null);
            made.getMethod("looked", List.class).invoke(null, answers);
        }
        Check.due("README.md's answers", calls.size(), answers.size());
        for (int i = 0; i < answers.size() && i < calls.size(); i++) {
            Check.due("README.md: " + calls.get(i), answers.get(i)[0], answers.get(i)[1]);
        }
    }
}
