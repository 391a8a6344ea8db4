import java.io.File;
import java.io.IOException;
import java.lang.reflect.InvocationTargetException;
import java.lang.reflect.Method;
import java.lang.reflect.Modifier;
import java.net.URL;
import java.net.URLClassLoader;
import java.nio.file.Files;
import java.nio.file.Path;
import java.util.ArrayList;
import java.util.HashSet;
import java.util.List;
import java.util.Set;
import java.util.regex.Matcher;
import java.util.regex.Pattern;
import java.util.stream.Collectors;
import java.util.stream.Stream;
import javax.tools.ToolProvider;

/**
 * README.md's blocks of Java are made one program and tried: a line "call;  // answer: words" must answer so, and each
 * call of the face must stand in such a line. A block that begins with "static" is a function.
 */
public final class ReadmeTest {
    private static final Pattern TRIED =
            Pattern.compile("^((?:x\\.(\\w+)|feed)\\(.*\\));\\s+// (-?\\d+|true|false)(?::.*)?$");

    private final Check check = new Check();
    private final StringBuilder functions = new StringBuilder();
    private final StringBuilder program = new StringBuilder();
    private final List<String> calls = new ArrayList<>();
    private final List<String> due = new ArrayList<>();
    private final Set<String> names = new HashSet<>();

    public static void main(String[] args) throws IOException, ReflectiveOperationException {
        ReadmeTest test = new ReadmeTest();
        test.read(Files.readAllLines(Path.of("README.md")));
        test.faceIsThere();
        test.tryOut();
        test.check.end("ReadmeTest");
    }

    private void read(List<String> lines) {
        StringBuilder block = null;
        for (String line : lines) {
            if (line.equals("```java")) {
                block = new StringBuilder();
            } else if (line.startsWith("```") && block != null) {
                (block.toString().startsWith("static ") ? functions : program).append(block);
                block = null;
            } else if (block != null) {
                block.append(tried(line)).append('\n');
            }
        }
        check.due("README.md's last block has an end", block == null, true);
    }

    /** A line with an answer notes it; another one stays as it is, but may bear no remark that is left untried. */
    private String tried(String line) {
        Matcher matcher = TRIED.matcher(line);
        if (!matcher.matches()) {
            check.due("README.md has an answer that is not tried: " + line, line.contains("//"), false);
            return line;
        }
        calls.add(matcher.group(1));
        due.add(matcher.group(3));
        names.add(matcher.group(2) == null ? "feed" : matcher.group(2));
        return "answers.add(String.valueOf(" + matcher.group(1) + "));";
    }

    private void faceIsThere() {
        for (Method method : ClockRiver.class.getDeclaredMethods()) {
            if (Modifier.isPublic(method.getModifiers())) {
                check.due("README.md tries " + method.getName(), names.contains(method.getName()), true);
            }
        }
    }

    private void tryOut() throws IOException, ReflectiveOperationException {
        Path folder = Files.createTempDirectory("readme");
        try {
            List<?> answers = answersOf(folder);
            check.due("README.md's answers", answers.size(), calls.size());
            for (int i = 0; i < Math.min(answers.size(), calls.size()); i++) {
                boolean isSo = due.get(i).equals(answers.get(i));
                check.due("README.md: " + calls.get(i) + " is " + answers.get(i) + ", told is " + due.get(i), isSo,
                        true);
            }
        } finally {
            remove(folder);
        }
    }

    private List<?> answersOf(Path folder) throws IOException, ReflectiveOperationException {
        Path source = folder.resolve("Readme.java");
        Files.writeString(source, "public final class Readme {\n" + functions
                + "public static java.util.List<String> answers() {\n"
                + "java.util.List<String> answers = new java.util.ArrayList<>();\n" + program
                + "return answers;\n}\n}\n");
        int exit = ToolProvider.getSystemJavaCompiler().run(null, null, null, "-cp",
                System.getProperty("java.class.path"), "-d", folder.toString(), source.toString());
        check.due("README.md's Java compiles", exit, 0);
        if (exit != 0) {
            return List.of();
        }
        URL[] places = {folder.toUri().toURL()};
        try (URLClassLoader loader = new URLClassLoader(places, ReadmeTest.class.getClassLoader())) {
            return (List<?>) loader.loadClass("Readme").getMethod("answers").invoke(null);
        } catch (InvocationTargetException e) {
            check.due("README.md's Java threw " + e.getCause(), false, true);
            return List.of();
        }
    }

    private static void remove(Path folder) throws IOException {
        try (Stream<Path> found = Files.list(folder)) {
            found.map(Path::toFile).collect(Collectors.toList()).forEach(File::delete);
        }
        Files.delete(folder);
    }
}
