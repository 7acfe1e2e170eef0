import java.io.IOException;
import java.lang.reflect.Method;
import java.lang.reflect.Modifier;
import java.net.URL;
import java.net.URLClassLoader;
import java.nio.file.Files;
import java.nio.file.Path;
import java.util.ArrayList;
import java.util.List;
import java.util.regex.Matcher;
import java.util.regex.Pattern;
import java.util.stream.Stream;

/** README.md: its example must compile and answer as told, and each call of the class must be named. */
final class ReadmeTest {
    private static final Pattern EXAMPLE = Pattern.compile("(?m)^    StewardHeaps x = .*\\n(    .*\\n)*");
    private static final Pattern ANSWERED = Pattern.compile("(x\\.\\w+\\([^;]*\\)); +// (-?\\d+|true|false)\\b.*");
    private static final int FEWEST_ANSWERS = 10;

    private ReadmeTest() {
    }

    static void run(String readme) throws IOException {
        Checks.promise(0);
        for (Method method : StewardHeaps.class.getDeclaredMethods()) {
            if (Modifier.isPublic(method.getModifiers())) {
                Checks.due("README.md names " + method.getName(), readme.contains("`" + method.getName() + "`"), true);
            }
        }
        Matcher example = EXAMPLE.matcher(readme);
        if (example.find()) {
            answers(example.group());
        } else {
            Checks.fail("README.md has no example");
        }
    }

    /** Each line that tells an answer notes it; the others are run as they stand. */
    private static void answers(String example) throws IOException {
        List<String> calls = new ArrayList<>();
        List<String> due = new ArrayList<>();
        StringBuilder source = new StringBuilder("public final class Example { public static String[] run() {\n")
                .append("StringBuilder told = new StringBuilder();\n");
        for (String line : example.split("\n")) {
            Matcher answered = ANSWERED.matcher(line.strip());
            if (answered.matches()) {
                calls.add(answered.group(1));
                due.add(answered.group(2));
                source.append("told.append(").append(answered.group(1)).append(").append(' ');\n");
            } else {
                source.append(line).append('\n');
            }
        }
        String[] got = compiledAndRun(source.append("return told.toString().split(\" \"); } }\n").toString());
        Checks.due("answers that README.md tells, at least", Math.min(calls.size(), FEWEST_ANSWERS), FEWEST_ANSWERS);
        for (int i = 0; i < calls.size(); i++) {
            Checks.due("README.md: " + calls.get(i), i < got.length ? got[i] : "nothing", due.get(i));
        }
    }

    private static String[] compiledAndRun(String source) throws IOException {
        Path room = Files.createTempDirectory("readme");
        try {
            Path file = Files.writeString(room.resolve("Example.java"), source);
            Process javac = new ProcessBuilder("javac", "-cp", System.getProperty("java.class.path"),
                    "-d", room.toString(), file.toString()).inheritIO().start();
            Checks.due("javac of the example of README.md", javac.waitFor(), 0);
            try (URLClassLoader loader = new URLClassLoader(new URL[] {room.toUri().toURL()})) {
                return (String[]) loader.loadClass("Example").getMethod("run").invoke(null);
            }
        } catch (ReflectiveOperationException | InterruptedException e) {
            Checks.fail("the example of README.md: " + e);
            return new String[0];
        } finally {
            clear(room);
        }
    }

    private static void clear(Path room) throws IOException {
        try (Stream<Path> files = Files.list(room)) {
            for (Path file : files.toList()) {
                Files.delete(file);
            }
        }
        Files.delete(room);
    }
}
